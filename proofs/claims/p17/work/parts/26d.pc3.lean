/-! the script, the bounds of a run, the worker -/
def nd_f (x bd : Int32) (n : Nat) : Prop := bd = -1 ∨ (bd = 0 ∧ 0 ≤ x.toInt ∧ x.toInt < n) ∨ (bd ≠ -1 ∧ bd ≠ 0 ∧ 0 ≤ x.toInt ∧ x.toInt < bd.toInt)
def nd_ok (c a b d : Int32) (n : Nat) : Prop := 0 ≤ c.toInt ∧ c.toInt ≤ 28 ∧ nd_f a (io_b1 c.toNatClampNeg) n ∧ nd_f b (io_b2 c.toNatClampNeg) n ∧ nd_f d (io_b3 c.toNatClampNeg) n
def io_Sc (σ : io_M) : Prop := 0 ≤ (σ 96 4).toInt ∧ (σ 96 4).toInt ≤ 60 ∧ ∀ n : Nat, (n : Int) < (σ 96 4).toInt → nd_ok (σ 97 n) (σ 98 n) (σ 99 n) (σ 100 n) n
theorem nd_0 {x bd : Int32} {n : Nat} (h : nd_f x bd n) (e : bd = 0) : 0 ≤ x.toInt ∧ x.toInt < n := by
  rcases h with h | h | h
  · rw [e] at h; exact absurd h (by decide)
  · exact h.2
  · exact absurd e h.2.1
theorem nd_b {x bd : Int32} {n : Nat} (h : nd_f x bd n) (m : Int) (e : bd.toInt = m) (hm : 0 < m) : 0 ≤ x.toInt ∧ x.toInt < m := by
  rcases h with h | h | h
  · rw [h, l_m1] at e; omega
  · rw [h.1, l_0] at e; omega
  · rw [← e]; exact h.2.2
/-- the worker's frame: script, permits, the face and the reference stay -/
def io_Fr (σ σ' : io_M) : Prop := σ' 90 = σ 90 ∧ (∀ k, 96 ≤ k → k ≤ 100 → σ' k = σ k) ∧ ∀ k, 110 ≤ k → σ' k = σ k
theorem io_Fr.rf {σ : io_M} : io_Fr σ σ := ⟨rfl, fun _ _ _ => rfl, fun _ _ => rfl⟩
theorem io_Fr.tr {a b c : io_M} (h : io_Fr a b) (g : io_Fr b c) : io_Fr a c := ⟨g.1.trans h.1, fun k h1 h2 => (g.2.1 k h1 h2).trans (h.2.1 k h1 h2), fun k h1 => (g.2.2 k h1).trans (h.2.2 k h1)⟩
theorem io_F3.toR {a b : io_M} (h : io_F3 a b) : io_Fr a b := ⟨h.1, fun k h1 h2 => h.2 k (by omega) (by omega) (by omega), fun k h1 => h.2 k (by omega) (by omega) (by omega)⟩
theorem io_Fr.up {σ σ' : io_M} (h : io_Fr σ σ') {k j : Nat} {v : Int32} (hk : k ≠ 90 ∧ (k < 96 ∨ 100 < k) ∧ k < 110) : io_Fr σ (io_up σ' k j v) := ⟨by rw [pu_ne (by omega)]; exact h.1, fun z h1 h2 => by rw [pu_ne (by omega)]; exact h.2.1 z h1 h2, fun z h1 => by rw [pu_ne (by omega)]; exact h.2.2 z h1⟩
theorem io_Sc.of {σ σ' : io_M} (h : io_Sc σ) (hF : io_Fr σ σ') : io_Sc σ' := by
  unfold io_Sc
  rw [hF.2.1 96 (by omega) (by omega), hF.2.1 97 (by omega) (by omega), hF.2.1 98 (by omega) (by omega), hF.2.1 99 (by omega) (by omega), hF.2.1 100 (by omega) (by omega)]
  exact h
/-- steps, journal, shown: with e doings still owed -/
def io_Bd (b0 e : Int) (σ : io_M) : Prop := 0 ≤ (σ 107 10).toInt ∧ (σ 107 10).toInt ≤ 600 ∧ 0 ≤ (σ 105 1).toInt ∧ (σ 105 1).toInt + 41 * e ≤ 41 * (σ 107 10).toInt ∧ 0 ≤ (σ 93 4).toInt ∧ (σ 93 4).toInt + e ≤ b0 + (σ 107 10).toInt
theorem io_Bd.of {b0 e : Int} {σ σ' : io_M} (h : io_Bd b0 e σ) (h1 : σ' 107 10 = σ 107 10) (h2 : σ' 105 1 = σ 105 1) (h3 : σ' 93 4 = σ 93 4) : io_Bd b0 e σ' := by
  unfold io_Bd
  rw [h1, h2, h3]
  exact h
def io_WI (b0 e : Int) (σ : io_M) : Prop := io_CI σ ∧ io_Sc σ ∧ io_Bd b0 e σ
theorem io_WI.f3 {b0 e : Int} {σ σ' : io_M} (h : io_WI b0 e σ) (hC : io_CI σ') (hF : io_F3 σ σ') : io_WI b0 e σ' := ⟨hC, h.2.1.of hF.toR, h.2.2.of (by rw [hF.2 107 (by decide) (by decide) (by decide)]) (by rw [hF.2 105 (by decide) (by decide) (by decide)]) (by rw [hF.2 93 (by decide) (by decide) (by decide)])⟩
theorem ok_w {k j : Nat} {v : Int32} (h : 104 ≤ k) : io_ok k j v := by
  unfold io_ok
  rw [if_neg (by omega), if_neg (by omega), if_neg (by omega), if_neg (by omega), if_neg (by omega), if_neg (by omega), if_neg (by omega), if_neg (by omega), if_neg (by omega)]
  trivial
/-- a put into the worker's own cells, not its steps -/
theorem io_WI.w {b0 e : Int} {σ : io_M} (h : io_WI b0 e σ) {k j : Nat} {v : Int32} (hk : (k = 107 ∧ j ≠ 10) ∨ k = 108 ∨ k = 109 ∨ k = 106) : io_WI b0 e (io_up σ k j v) := by
  refine ⟨h.1.up (ok_w (by omega)), h.2.1.of (io_Fr.rf.up (by omega)), h.2.2.of ?_ (by rw [pu_ne (by omega)]) (by rw [pu_ne (by omega)])⟩
  rcases hk with ⟨rfl, hj⟩ | hk
  · rw [pu_same (Ne.symm hj)]
  · rw [pu_ne (by omega)]
theorem io_WI.le {b0 e e' : Int} {σ : io_M} (h : io_WI b0 e σ) (he : e' ≤ e) : io_WI b0 e' σ := by
  obtain ⟨h1, h2, a, b, c, d, f, g⟩ := h
  exact ⟨h1, h2, a, b, c, by omega, f, by omega⟩
section PW
variable {σ : io_M} {f v p x : Int32} {post : Int32 → io_M → Prop} {pv : io_M → Prop} {po : Option Nat → io_M → Prop} {h j : Nat} {b0 e : Int}
theorem sp_give (hw : io_WI b0 e σ) (hp : ∀ σ', io_WI b0 e σ' → io_Fr σ σ' → post 1 σ') : wp_X8_give σ p x post := by
  intro s1 e1 s2 e2
  subst e2; subst e1
  exact hp _ ((hw.w (by omega)).w (by omega)) ((io_Fr.rf.up (by omega)).up (by omega))
theorem sp_fail (hw : io_WI b0 e σ) (hp : ∀ σ', io_WI b0 e σ' → io_Fr σ σ' → post 0 σ') : wp_X8_fail σ p x post := by
  intro s1 e1 s2 e2 s3 e3
  subst e3; subst e2; subst e1
  exact hp _ (((hw.w (by omega)).w (by omega)).w (by omega)) (((io_Fr.rf.up (by omega)).up (by omega)).up (by omega))
theorem sp_stop (hw : io_WI b0 e σ) (hp : ∀ σ', io_WI b0 e σ' → io_Fr σ σ' → post 0 σ') : wp_X8_stop σ post := by
  intro s1 e1 s2 e2
  subst e2; subst e1
  exact hp _ ((hw.w (by omega)).w (by omega)) ((io_Fr.rf.up (by omega)).up (by omega))
theorem sp_settle (hw : io_WI b0 e σ) (hp : ∀ r σ', io_WI b0 e σ' → io_Fr σ σ' → post r σ') : wp_X8_settle σ p x v post := ⟨fun _ => sp_give hw (fun s a b => hp _ _ a b), fun _ => sp_fail hw (fun s a b => hp _ _ a b)⟩
/-- one note: takes up one of the owed forty-one -/
theorem sp_note1 (hC : io_CI σ) (hS : io_Sc σ) (hj : 0 ≤ (σ 105 1).toInt ∧ (σ 105 1).toInt < 100000) (hp : ∀ σ', io_CI σ' → io_Fr σ σ' → (∀ k, k ≠ 105 → k ≠ 106 → σ' k = σ k) → (σ' 105 1).toInt = (σ 105 1).toInt + 1 → pv σ') : wp_X4_note σ x pv := by
  have z := l_300
  refine ⟨fun _ s1 e1 => ?_, fun c => ⟨pz_in.mpr ⟨hj.1, ?_⟩, fun s1 e1 s2 e2 => ?_⟩⟩
  · subst e1
    exact hp _ (hC.up (ok_w (by omega))) (io_Fr.rf.up (by omega)) (fun k h1 h2 => by rw [pu_ne h1]) (by rw [pu_self, pz_1 (by omega)])
  · have := pz_nle c
    show (σ 105 1).toInt < 300
    omega
  · subst e2; subst e1
    refine hp _ ((hC.up (ok_w (by omega))).up (ok_w (by omega))) ((io_Fr.rf.up (by omega)).up (by omega)) (fun k h1 h2 => by rw [pu_ne h1, pu_ne h2]) ?_
    rw [pu_self, pu_ne (by decide), pz_1 (by omega)]
theorem io_WI.bd {b0 e : Int} {σ : io_M} (h : io_WI b0 e σ) (he : 0 ≤ e) : 0 ≤ (σ 105 1).toInt ∧ (σ 105 1).toInt ≤ 24600 := by
  obtain ⟨h1, h2, a, b, c, d, f, g⟩ := h
  omega
theorem sp_note (hw : io_WI b0 (e + 1) σ) (he : 0 ≤ e) (hp : ∀ σ', io_WI b0 e σ' → io_Fr σ σ' → pv σ') : wp_X4_note σ x pv := by
  have hb := hw.bd (by omega)
  obtain ⟨h1, h2, a, b, c, d, f, g⟩ := hw
  refine sp_note1 h1 h2 ⟨hb.1, by omega⟩ (fun s hC hF hk hn => hp _ ⟨hC, h2.of hF, ?_⟩ hF)
  unfold io_Bd
  rw [hk 107 (by decide) (by decide), hk 93 (by decide) (by decide), hn]
  omega
theorem sp_act (hw : io_WI b0 (e + 1) σ) (he : 0 ≤ e) (hp : ∀ r σ', io_WI b0 e σ' → io_Fr σ σ' → post r σ') : wp_X8_act σ p x v post := ⟨fun _ => sp_settle (hw.le (by omega)) hp, fun _ => sp_note hw he (fun s a b => sp_settle a (fun r s2 a2 b2 => hp _ _ a2 (b.tr b2)))⟩
theorem sp_noteTimesL {σ0 : io_M} (he : 0 ≤ e) (hx : x.toInt ≤ 40) (hp : ∀ σ', io_WI b0 e σ' → io_Fr σ0 σ' → pv σ') : ∀ (n : Nat) (σ : io_M) (y : Int32), io_CI σ → io_Sc σ → io_Fr σ0 σ → 0 ≤ y.toInt → y.toInt ≤ 40 → 40 - y.toInt < n → (0 ≤ (σ 107 10).toInt ∧ (σ 107 10).toInt ≤ 600 ∧ 0 ≤ (σ 105 1).toInt ∧ (σ 105 1).toInt + 41 * e + (41 - y.toInt) ≤ 41 * (σ 107 10).toInt ∧ 0 ≤ (σ 93 4).toInt ∧ (σ 93 4).toInt + e ≤ b0 + (σ 107 10).toInt) → wl_X8_noteTimes_2 n σ p x y pv := by
  intro n
  induction n with
  | zero => intro σ y _ _ _ _ h1 h2; exact absurd h2 (by omega)
  | succ n ih =>
    intro σ y hC hS hF h0 h1 h2 h3
    unfold wl_X8_noteTimes_2
    refine ⟨fun _ => hp _ ⟨hC, hS, ?_⟩ hF, fun c => sp_note1 hC hS ⟨h3.2.2.1, by omega⟩ (fun s hC' hF' hk hn => ?_)⟩
    · unfold io_Bd; omega
    · have hc := pz_nle c
      have e2 := pz_1 (x := y) (by omega)
      refine ih _ _ hC' (hS.of hF') (hF.tr hF') (by omega) (by omega) (by omega) ?_
      rw [hk 107 (by decide) (by decide), hk 93 (by decide) (by decide), hn]
      omega
theorem sp_noteTimes (hw : io_WI b0 (e + 1) σ) (he : 0 ≤ e) (hx : x.toInt ≤ 40) (hp : ∀ σ', io_WI b0 e σ' → io_Fr σ σ' → pv σ') : wp_X8_noteTimes σ p x pv := by
  have hb := hw.bd (by omega)
  obtain ⟨h1, h2, a, b, c, d, f, g⟩ := hw
  have z := l_0
  exact ⟨41, sp_noteTimesL he hx hp 41 σ 0 h1 h2 io_Fr.rf (by omega) (by omega) (by omega) (by omega)⟩
theorem sp_assign (hw : io_WI b0 e σ) (hp6 : 0 ≤ p.toInt ∧ p.toInt < 6) (hp : ∀ σ', io_WI b0 e σ' → io_Fr σ σ' → pv σ') : wp_X8_assign σ p x v pv := by
  have hi := pz_in (n := 6).mpr hp6
  refine ⟨hi, fun s1 e1 => ⟨hi, fun s2 e2 => ?_⟩⟩
  subst e2; subst e1
  exact hp _ ((hw.w (by omega)).w (by omega)) ((io_Fr.rf.up (by omega)).up (by omega))
/-- a node that stands -/
def io_nd (σ : io_M) (n : Int32) : Prop := 0 ≤ n.toInt ∧ n.toInt < (σ 96 4).toInt
theorem io_nd.of {σ σ' : io_M} {n : Int32} (h : io_nd σ n) (hF : io_Fr σ σ') : io_nd σ' n := by
  unfold io_nd
  rw [hF.2.1 96 (by omega) (by omega)]
  exact h
theorem io_nd.ok {n : Int32} (hS : io_Sc σ) (h : io_nd σ n) : nd_ok (σ 97 n.toNatClampNeg) (σ 98 n.toNatClampNeg) (σ 99 n.toNatClampNeg) (σ 100 n.toNatClampNeg) n.toNatClampNeg := by
  refine hS.2.2 _ ?_
  rw [pz_cl]
  have := h.1
  have := h.2
  omega
theorem io_nd.in {n : Int32} (hS : io_Sc σ) (h : io_nd σ n) : vp_in n 60 := pz_in.mpr ⟨h.1, by have := h.2; have := hS.2.1; show n.toInt < 60; omega⟩
theorem nd_lt {a n : Int32} (h : io_nd σ n) (ha : 0 ≤ a.toInt ∧ a.toInt < n.toNatClampNeg) : io_nd σ a := by
  have h1 := h.1
  have h2 := h.2
  have h3 := ha.2
  rw [pz_cl] at h3
  exact ⟨ha.1, by omega⟩
/-- what working a node does, with e doings owed by those above -/
def io_KS (b0 e : Int) (lim : Int) (K : io_M → Int32 → Int32 → (Int32 → io_M → Prop) → Prop) : Prop := ∀ (σ : io_M) (n dp : Int32) (post : Int32 → io_M → Prop), dp.toInt = e + 1 → lim ≤ dp.toInt → dp.toInt ≤ 61 → io_WI b0 e σ → io_nd σ n → (∀ r σ', io_WI b0 e σ' → io_Fr σ σ' → post r σ') → K σ n dp post
end PW
