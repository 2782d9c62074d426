def rOw (P : Nat) (σ : io_M) : Prop := (σ 111 48 = 0 ∧ (¬ σ 141 P = 0 → tv (σ 111 16) (σ 111 28) (σ 111 46) (σ 111 47))) ∨ σ 111 48 = 1 ∨ σ 111 48 = 2
theorem rOut.w {P : Nat} {σ : io_M} (h : rOut σ) : rOw P σ := by
  rcases h with q | q
  · exact Or.inl ⟨q.1, fun _ => q.2⟩
  · exact Or.inr q
def rCl (b0 : Int) (P : Nat) (n : Int32) (pv : io_M → Prop) (σ : io_M) (d : Int) : Prop := ∀ s, rS b0 (P + 1) s → s 140 P = n → rMo σ s → rFr P σ s → fcs P n s → rOw P s → 600 - (s 111 35).toInt ≤ d → rLo pv s
def rNC (b0 : Int) (pv : io_M → Prop) (mc : Int) : Prop := ∀ (P : Nat) (σ : io_M) (n : Int32), rS b0 (P + 1) σ → σ 111 48 = 0 → σ 140 P = n → n.toInt = mc → σ 141 P = 0 → σ 144 P = 0 → P + mc ≤ 59 → mc < (σ 111 9).toInt → (∀ σ', rQ b0 P σ σ' → rLo pv σ') → rLo pv σ
def rCtx (b0 : Int) (P : Nat) (n : Int32) (pv : io_M → Prop) (σ : io_M) (d : Int) : Prop := (∀ σ', rQ b0 P σ σ' → rLo pv σ') ∧ rCl b0 P n pv σ d ∧ (∀ c : Int32, 0 ≤ c.toInt → c.toInt < n.toInt → rNC b0 pv c.toInt) ∧ (P : Int) + n.toInt ≤ 59
def rG (b0 : Int) (P : Nat) (n : Int32) (σ : io_M) (d : Int) (k : Nat) (s : io_M) : Prop := rS b0 (P + 1) s ∧ s 140 P = n ∧ rMo σ s ∧ rFr P σ s ∧ 600 - (s 111 35).toInt ≤ d + 1 ∧ 2 * (600 - (s 111 35).toInt) + P + 2 ≤ k ∧ 0 ≤ n.toInt ∧ n.toInt < (s 111 9).toInt
theorem rB.le {b0 P Q : Int} {σ : io_M} (h : rB b0 P σ) (q : Q ≤ P) : rB b0 Q σ := by
  obtain ⟨h1, h2, h3, h4, h5⟩ := h
  exact ⟨h1, h2, by omega, h4, by omega⟩
section RG
variable {b0 d : Int} {P Q k : Nat} {m : Int} {σ s t : io_M} {p1 p2 p3 p4 v n x c T st : Int32} {pv : io_M → Prop} {post : Int32 → io_M → Prop} {e : Nat}
theorem sr_call (hc : rCtx b0 P n pv σ d) (h : rG b0 P n σ d k s) (hg : s 111 48 = 0) (hf : fcs P n s) (hcc : 0 ≤ c.toInt ∧ c.toInt < n.toInt) : wp_X10_begin s c (fun s' => wl_X10_work_0 k s' pv) := by
  obtain ⟨hK, hCl, hN, hPn⟩ := hc
  obtain ⟨hS, h140, hMo, hFr, hd, hk, hn0, hn1⟩ := h
  have h6 := hS.2.2.2.2.1
  refine sr_begin hS hg (by omega) (fun a1 a2 a3 a4 a5 => ?_) (fun s' b1 b2 b3 b4 b5 b6 b7 b8 => ?_)
  · exact hK _ ⟨a1, a2, hMo.tr a3, Or.inl ⟨a4, a5.le (by omega)⟩⟩ k (by omega) (fun q => absurd a4 q)
  · refine hN c hcc.1 hcc.2 (P + 1) s' c b1 b4 b5 rfl b6 b7 (by omega) (by rw [b2.2.1]; omega) (fun σ' q => ?_) k (by omega) (fun _ => ?_)
    · obtain ⟨q1, q2, q3, q4⟩ := q
      rcases q4 with ⟨q5, q6⟩ | ⟨q5, q6, q7, q8⟩
      · exact hK _ ⟨q1, q2, (hMo.tr b2).tr q3, Or.inl ⟨q5, q6⟩⟩
      · have hmo2 := b2.tr q3
        have hfr2 := b3.tr q8
        refine hCl σ' ⟨q1, q2, (hS.2.2.1.of hmo2), q5, q7⟩ (by rw [hfr2 140 P (by omega) (by omega)]; exact h140) (hMo.tr hmo2) (hFr.tr (hfr2.le (by omega))) ?_ q6.w (by have := q3.2.2.2.2; omega)
        unfold fcs
        rw [hmo2.1 118 (by omega), hfr2 141 P (by omega) (by omega), hfr2 142 P (by omega) (by omega), hfr2 143 P (by omega) (by omega), hfr2 144 P (by omega) (by omega), hfr2 147 P (by omega) (by omega), hfr2 148 P (by omega) (by omega)]
        exact fc.mono hf hmo2.2.2.1 hmo2.2.2.2.1
    · have h38 := b1.2.2.2.1
      omega
theorem sr_leaf (hc : rCtx b0 P n pv σ d) (h : rG b0 P n σ d k s) : ∀ s', rP b0 P s s' → wl_X10_work_0 k s' pv := by
  intro s' q
  obtain ⟨hK, hCl, hN, hPn⟩ := hc
  obtain ⟨hS, h140, hMo, hFr, hd, hk, hn0, hn1⟩ := h
  obtain ⟨q1, q2, q3, q4, q5, q6⟩ := q
  have h6 := hS.2.2.2.2.1
  refine hK s' ⟨q1, q2, hMo.tr q3.mo, Or.inr ⟨q4, q5, q6, hFr.tr q3.fr⟩⟩ k (by omega) (fun _ => ?_)
  rw [q3.2.2.2.2]
  omega
/-- the top goes with what is going on already -/
theorem sr_pop (hc : rCtx b0 P n pv σ d) (h : rG b0 P n σ d k s) (ho : rOut t) (hk : ∀ k, k ≠ 111 → t k = s k) (hs : ∀ j, j ≠ 38 → j ≠ 46 → j ≠ 47 → j ≠ 48 → j ≠ 49 → j ≠ 50 → t 111 j = s 111 j) (h38 : t 111 38 = s 111 38 - 1) : wl_X10_work_0 k t pv := by
  obtain ⟨hK, hCl, hN, hPn⟩ := hc
  obtain ⟨hS, h140, hMo, hFr, hd, hk2, hn0, hn1⟩ := h
  obtain ⟨hI, hC, hN2, hQ, hB⟩ := hS
  have h6 := hB.1
  have e38 : (t 111 38).toInt = P := by rw [h38, pz_s1 (by omega)]; omega
  have g : ∀ j, j < 38 → t 111 j = s 111 j := fun j q => hs j (by omega) (by omega) (by omega) (by omega) (by omega) (by omega)
  refine hK t ⟨rI_cg hI (fun k q => hk k (by omega)) (g 16 (by omega)) (g 28 (by omega)), ?_, hMo.tr ⟨fun k q => hk k (by omega), g 9 (by omega), ?_, ?_, ?_⟩, Or.inr ⟨e38, ho, ?_, hFr.tr (fun k j q _ => by rw [hk k (by omega)])⟩⟩ k (by omega) (fun _ => ?_)
  · unfold rC; rw [g 4 (by omega), g 5 (by omega)]; exact hC
  · rw [g 16 (by omega)]; exact Int.le_refl _
  · rw [g 28 (by omega)]; exact Int.le_refl _
  · rw [g 35 (by omega)]; exact Int.le_refl _
  · have := hB.le (Q := P) (by omega)
    unfold rB
    rw [g 35 (by omega), g 33 (by omega), g 7 (by omega)]
    exact this
  · rw [g 35 (by omega)]
    omega
theorem rG.cg {s s' : io_M} (h : rG b0 P n σ d k s) (hI : rI 99 s') (h111 : ∀ j, j ≠ 48 → s' 111 j = s 111 j) (hk : ∀ k, (k < 111 ∨ k = 115 ∨ (118 ≤ k ∧ k ≤ 121) ∨ k = 140) → s' k = s k) (hP : ∀ k j, 140 ≤ k → j ≠ P → s' k j = s k j) : rG b0 P n σ d k s' := by
  obtain ⟨hS, h140, hMo, hFr, hd, hk2, hn0, hn1⟩ := h
  obtain ⟨hI', hC, hN2, hQ, hB⟩ := hS
  have g : ∀ j, j < 48 → s' 111 j = s 111 j := fun j q => h111 j (by omega)
  have hmo : rMo s s' := ⟨fun k q => hk k (by omega), g 9 (by omega), by rw [g 16 (by omega)]; exact Int.le_refl _, by rw [g 28 (by omega)]; exact Int.le_refl _, by rw [g 35 (by omega)]; exact Int.le_refl _⟩
  refine ⟨⟨hI, ?_, hN2.of hmo, ?_, ?_⟩, ?_, hMo.tr hmo, hFr.tr (fun k j q t => hP k j q (by omega)), ?_, ?_, hn0, ?_⟩
  · unfold rC; rw [g 4 (by omega), g 5 (by omega)]; exact hC
  · rw [g 38 (by omega)]; exact hQ
  · unfold rB; rw [g 35 (by omega), g 33 (by omega), g 7 (by omega)]; exact hB
  · rw [hk 140 (by omega)]; exact h140
  · rw [g 35 (by omega)]; exact hd
  · rw [g 35 (by omega)]; exact hk2
  · rw [g 9 (by omega)]; exact hn1
theorem rG.up {z : Nat} (h : rG b0 P n σ d k s) (hz : 141 ≤ z) : rG b0 P n σ d k (io_up s z P v) :=
  h.cg (rI_up h.1.1 (by omega)) (fun j _ => by rw [pu_ne (by omega)]) (fun k q => pu_ne (by omega)) (fun k j q r => by
    by_cases c : k = z
    · rw [c, pu_same r]
    · rw [pu_ne c])
theorem rI_var {σ σ' : io_M} (j : Nat) (a b : Int32) (h : rI 99 σ) (h122 : σ' 122 = ru (σ 122) j a) (h123 : σ' 123 = ru (σ 123) j b) (ht : tv (σ 111 16) (σ 111 28) a b) (hk : ∀ k, (k = 113 ∨ k = 124 ∨ k = 126 ∨ k = 127 ∨ k = 129 ∨ k = 130 ∨ k = 135 ∨ k = 136) → σ' k = σ k) (h16 : σ' 111 16 = σ 111 16) (h28 : σ' 111 28 = σ 111 28) : rI 99 σ' := by
  obtain ⟨hD, hH, hL, hV⟩ := h
  unfold rI
  rw [h122, h123, hk 113 (by omega), hk 124 (by omega), hk 126 (by omega), hk 127 (by omega), hk 129 (by omega), hk 130 (by omega), hk 135 (by omega), hk 136 (by omega), h16, h28]
  refine ⟨hD, hH, hL, fun j' hj => ?_⟩
  by_cases c : j' = j
  · rw [c, ru_self, ru_self]; exact ht
  · rw [ru_ne c, ru_ne c]; exact hV j' hj
theorem rG.var (j : Nat) (a b : Int32) (h : rG b0 P n σ d k s) (ht : tv (s 111 16) (s 111 28) a b) : rG b0 P n σ d k (io_up (io_up s 122 j a) 123 j b) :=
  h.cg (rI_var j a b h.1.1 (by rw [pu_ne (by decide), pu_row]) (by rw [pu_row, pu_ne (by decide)]) ht (fun k q => by rw [pu_ne (by omega), pu_ne (by omega)]) (by rw [pu_ne (by decide), pu_ne (by decide)]) (by rw [pu_ne (by decide), pu_ne (by decide)])) (fun j _ => by rw [pu_ne (by decide), pu_ne (by decide)]) (fun k q => by rw [pu_ne (by omega), pu_ne (by omega)]) (fun k j q r => by rw [pu_ne (by omega), pu_ne (by omega)])
theorem rG.var' (j : Nat) (a b : Int32) (h : rG b0 P n σ d k s) (ht : tv (s 111 16) (s 111 28) a b) : rG b0 P n σ d k (io_up (io_up s 123 j b) 122 j a) :=
  h.cg (rI_var j a b h.1.1 (by rw [pu_row, pu_ne (by decide)]) (by rw [pu_ne (by decide), pu_row]) ht (fun k q => by rw [pu_ne (by omega), pu_ne (by omega)]) (by rw [pu_ne (by decide), pu_ne (by decide)]) (by rw [pu_ne (by decide), pu_ne (by decide)])) (fun j _ => by rw [pu_ne (by decide), pu_ne (by decide)]) (fun k q => by rw [pu_ne (by omega), pu_ne (by omega)]) (fun k j q r => by rw [pu_ne (by omega), pu_ne (by omega)])
theorem rG.goes (h : rG b0 P n σ d k s) : rG b0 P n σ d k (io_up s 111 48 v) :=
  h.cg (rI_s h.1.1 (by omega)) (fun j q => pu_s q) (fun k q => pu_ne (by omega)) (fun k j q r => by rw [pu_ne (by omega)])
theorem rG.mid (h : rG b0 P n σ d k s) (hg : s 111 48 = 0) : rM b0 P 41 s s := h.1.mid hg
theorem rG.ok (h : rG b0 P n σ d k s) : nd_ok (s 118 n.toNatClampNeg) (s 119 n.toNatClampNeg) (s 120 n.toNatClampNeg) (s 121 n.toNatClampNeg) n.toNatClampNeg := by
  have h1 := h.2.2.2.2.2.2
  have hcl := pz_cl n
  exact h.1.2.2.1.2.2 n.toNatClampNeg (by omega)
theorem rG.in (h : rG b0 P n σ d k s) : vp_in n 60 := pz_in.mpr ⟨h.2.2.2.2.2.2.1, by have h1 := h.2.2.2.2.2.2.2; have h2 := h.1.2.2.1.2.1; show n.toInt < 60; omega⟩
theorem rG.ch {a bd : Int32} (h : rG b0 P n σ d k s) (ha : nd_f a bd n.toNatClampNeg) (hb : bd = 0) : 0 ≤ a.toInt ∧ a.toInt < n.toInt := by
  have h1 := nd_0 ha hb
  have h2 := h.2.2.2.2.2.2.1
  have hcl := pz_cl n
  omega
theorem fcs_no (h1 : ¬ s 118 n.toNatClampNeg = 5) (h2 : ¬ s 118 n.toNatClampNeg = 8) (h3 : ¬ s 118 n.toNatClampNeg = 10) (h4 : ¬ s 118 n.toNatClampNeg = 27) (h5 : ¬ s 118 n.toNatClampNeg = 28) : fcs P n s :=
  ⟨fun q => by rcases q with q | q; exact absurd q h1; exact absurd q h3, fun q => absurd q h2, fun q => absurd q h4, fun q => absurd q h5⟩
theorem fcs_eq (x : Int32) (e : s 118 n.toNatClampNeg = x) (hx : ¬ x = 5 ∧ ¬ x = 8 ∧ ¬ x = 10 ∧ ¬ x = 27 ∧ ¬ x = 28) : fcs P n s := by
  refine fcs_no ?_ ?_ ?_ ?_ ?_
  · rw [e]; exact hx.1
  · rw [e]; exact hx.2.1
  · rw [e]; exact hx.2.2.1
  · rw [e]; exact hx.2.2.2.1
  · rw [e]; exact hx.2.2.2.2
end RG
