/-! doings with files -/
def aS (c : io_M) (r : Int32) (c' : io_M) (V : io_M → (io_M → Prop) → Prop) : Prop := ∀ (b0 : Int) (P : Nat) (x : io_M) (pv : io_M → Prop), rM b0 P 41 x x → oR c x → (∀ x', rP b0 P x x' → oR c' x' → oO r c' x' → pv x') → V x pv
def hdC (c : io_M) (f w : Int32) : Prop := ∃ h : Nat, (h : Int) < (c 101 2).toInt ∧ ¬ c h 7 = 2 ∧ c h 4 = f ∧ (w = 0 ∨ ¬ c h 5 = 0)
def hdR (x : io_M) (f : Int32) : Prop := ∃ h : Nat, (h : Int) < (x 111 16).toInt ∧ x 124 h = f ∧ ¬ x 127 h = 2
def hdW (x : io_M) (f : Int32) : Prop := ∃ h : Nat, (h : Int) < (x 111 16).toInt ∧ x 124 h = f ∧ ¬ x 127 h = 2 ∧ ¬ x 125 h = 0
section EM
variable {c x c' x' c1 σ0 s : io_M} {post : Int32 → io_M → Prop} {pv : io_M → Prop} {i j : Nat} {p y v n k r w f g m : Int32} {b0 e : Int} {P : Nat}
theorem hd_0 (hH : oH c x) : hdC c f 0 ↔ hdR x f := by
  constructor
  · rintro ⟨h, a1, a2, a3, a4⟩
    rw [hH.1] at a1
    obtain ⟨b1, b2, b3, b4, b5, b6, b7⟩ := hH.2.2 h a1
    exact ⟨h, a1, by rw [← b1]; exact a3, by rw [← b4]; exact a2⟩
  · rintro ⟨h, a1, a2, a3⟩
    obtain ⟨b1, b2, b3, b4, b5, b6, b7⟩ := hH.2.2 h a1
    exact ⟨h, by rw [hH.1]; exact a1, by rw [b4]; exact a3, by rw [b1]; exact a2, Or.inl rfl⟩
theorem hd_1 (hH : oH c x) : hdC c f 1 ↔ hdW x f := by
  constructor
  · rintro ⟨h, a1, a2, a3, a4⟩
    rw [hH.1] at a1
    obtain ⟨b1, b2, b3, b4, b5, b6, b7⟩ := hH.2.2 h a1
    refine ⟨h, a1, by rw [← b1]; exact a3, by rw [← b4]; exact a2, ?_⟩
    rcases a4 with q | q
    · exact absurd q (by decide)
    · rw [← b2]; exact q
  · rintro ⟨h, a1, a2, a3, a4⟩
    obtain ⟨b1, b2, b3, b4, b5, b6, b7⟩ := hH.2.2 h a1
    exact ⟨h, by rw [hH.1]; exact a1, by rw [b4]; exact a3, by rw [b1]; exact a2, Or.inr (by rw [b2]; exact a4)⟩
theorem xh_L (hC : io_CI c) (h1 : hdC c f w → post 1 c) (h0 : ¬ hdC c f w → post 0 c) : ∀ (n : Nat) (y : Int32), 0 ≤ y.toInt → y.toInt ≤ 20 → 20 - y.toInt < n → (∀ h : Nat, (h : Int) < y.toInt → ¬ (¬ c h 7 = 2 ∧ c h 4 = f ∧ (w = 0 ∨ ¬ c h 5 = 0))) → wl_X3_isHeld_2 n c f w y post := by
  intro n
  have hc := CI_hc hC
  induction n with
  | zero => intro y _ h1 h2; exact absurd h2 (by omega)
  | succ n ih =>
    intro y a1 a2 a3 hall
    unfold wl_X3_isHeld_2
    refine ⟨fun q => h0 ?_, fun q => ?_⟩
    · have := pz_le.mp q
      rintro ⟨h, b1, b2⟩
      exact hall h (by omega) b2
    · have hq := pz_nle q
      have hi : vp_in y 20 := pz_in.mpr ⟨a1, by show y.toInt < 20; omega⟩
      have e2 := pz_1 (x := y) (by omega)
      have hcl := pz_cl y
      have go : ¬ (¬ c y.toNatClampNeg 7 = 2 ∧ c y.toNatClampNeg 4 = f ∧ (w = 0 ∨ ¬ c y.toNatClampNeg 5 = 0)) → wl_X3_isHeld_2 n c f w (y + 1) post := by
        intro t
        refine ih _ (by omega) (by omega) (by omega) (fun h b1 => ?_)
        by_cases u : h = y.toNatClampNeg
        · rw [u]; exact t
        · exact hall h (by omega)
      have yes : ¬ c y.toNatClampNeg 7 = 2 ∧ c y.toNatClampNeg 4 = f ∧ (w = 0 ∨ ¬ c y.toNatClampNeg 5 = 0) → post 1 c := fun t => h1 ⟨y.toNatClampNeg, by omega, t⟩
      refine ⟨hi, fun t => ⟨fun _ => go (fun u => u.1 t), fun u => absurd rfl u⟩, fun t => ⟨fun u => ⟨fun v => absurd v (by decide), fun _ => ⟨hi, fun v => ⟨fun _ => ⟨fun w0 => yes ⟨t, u, Or.inl w0⟩, fun w0 => go (fun z => ?_)⟩, fun v => absurd rfl v⟩, fun v => ⟨fun v => absurd v (by decide), fun _ => yes ⟨t, u, Or.inr v⟩⟩⟩⟩, fun u => ⟨fun _ => go (fun z => u z.2.1), fun v => absurd rfl v⟩⟩⟩
      rcases z.2.2 with z | z
      · exact w0 z
      · exact z v
theorem xh_isHeld (hC : io_CI c) (h1 : hdC c f w → post 1 c) (h0 : ¬ hdC c f w → post 0 c) : wp_X3_isHeld c f w post := ⟨21, xh_L hC h1 h0 21 0 (by rw [l_0]; omega) (by rw [l_0]; omega) (by rw [l_0]; omega) (fun h b => absurd b (by rw [l_0]; omega))⟩
theorem xr_L (hh : (x 111 16).toInt ≤ 20) (h1 : hdR x f → post 1 x) (h0 : ¬ hdR x f → post 0 x) : ∀ (n : Nat) (y : Int32), 0 ≤ y.toInt → y.toInt ≤ 20 → 20 - y.toInt < n → (∀ h : Nat, (h : Int) < y.toInt → ¬ (x 124 h = f ∧ ¬ x 127 h = 2)) → wl_X10_isHeld_2 n x f y post := by
  intro n
  induction n with
  | zero => intro y _ h1 h2; exact absurd h2 (by omega)
  | succ n ih =>
    intro y a1 a2 a3 hall
    unfold wl_X10_isHeld_2
    refine ⟨fun q => h0 ?_, fun q => ?_⟩
    · have := pz_le.mp q
      rintro ⟨h, b1, b2⟩
      exact hall h (by omega) b2
    · have hq := pz_nle q
      have hi : vp_in y 20 := pz_in.mpr ⟨a1, by show y.toInt < 20; omega⟩
      have e2 := pz_1 (x := y) (by omega)
      have hcl := pz_cl y
      have go : ¬ (x 124 y.toNatClampNeg = f ∧ ¬ x 127 y.toNatClampNeg = 2) → wl_X10_isHeld_2 n x f (y + 1) post := by
        intro t
        refine ih _ (by omega) (by omega) (by omega) (fun h b1 => ?_)
        by_cases u : h = y.toNatClampNeg
        · rw [u]; exact t
        · exact hall h (by omega)
      exact ⟨hi, fun u => ⟨hi, fun t => go (fun z => z.2 t), fun t => h1 ⟨y.toNatClampNeg, by omega, u, t⟩⟩, fun u => go (fun z => u z.1)⟩
theorem xr_isHeld (hH : oH c x) (h1 : hdC c f 0 → post 1 x) (h0 : ¬ hdC c f 0 → post 0 x) : wp_X10_isHeld x f post := ⟨21, xr_L hH.2.1.2 (fun q => h1 ((hd_0 hH).mpr q)) (fun q => h0 (fun t => q ((hd_0 hH).mp t))) 21 0 (by rw [l_0]; omega) (by rw [l_0]; omega) (by rw [l_0]; omega) (fun h b => absurd b (by rw [l_0]; omega))⟩
theorem xw_L (hh : (x 111 16).toInt ≤ 20) (h1 : hdW x f → post 1 x) (h0 : ¬ hdW x f → post 0 x) : ∀ (n : Nat) (y : Int32), 0 ≤ y.toInt → y.toInt ≤ 20 → 20 - y.toInt < n → (∀ h : Nat, (h : Int) < y.toInt → ¬ (x 124 h = f ∧ ¬ x 127 h = 2 ∧ ¬ x 125 h = 0)) → wl_X10_isHeldToWrite_2 n x f y post := by
  intro n
  induction n with
  | zero => intro y _ h1 h2; exact absurd h2 (by omega)
  | succ n ih =>
    intro y a1 a2 a3 hall
    unfold wl_X10_isHeldToWrite_2
    refine ⟨fun q => h0 ?_, fun q => ?_⟩
    · have := pz_le.mp q
      rintro ⟨h, b1, b2⟩
      exact hall h (by omega) b2
    · have hq := pz_nle q
      have hi : vp_in y 20 := pz_in.mpr ⟨a1, by show y.toInt < 20; omega⟩
      have e2 := pz_1 (x := y) (by omega)
      have hcl := pz_cl y
      have go : ¬ (x 124 y.toNatClampNeg = f ∧ ¬ x 127 y.toNatClampNeg = 2 ∧ ¬ x 125 y.toNatClampNeg = 0) → wl_X10_isHeldToWrite_2 n x f (y + 1) post := by
        intro t
        refine ih _ (by omega) (by omega) (by omega) (fun h b1 => ?_)
        by_cases u : h = y.toNatClampNeg
        · rw [u]; exact t
        · exact hall h (by omega)
      exact ⟨hi, fun u => ⟨hi, fun t => go (fun z => z.2.1 t), fun t => ⟨hi, fun v => go (fun z => z.2.2 v), fun v => h1 ⟨y.toNatClampNeg, by omega, u, t, v⟩⟩⟩, fun u => go (fun z => u z.1)⟩
theorem xw_isHeld (hH : oH c x) (h1 : hdC c f 1 → post 1 x) (h0 : ¬ hdC c f 1 → post 0 x) : wp_X10_isHeldToWrite x f post := ⟨21, xw_L hH.2.1.2 (fun q => h1 ((hd_1 hH).mpr q)) (fun q => h0 (fun t => q ((hd_1 hH).mp t))) 21 0 (by rw [l_0]; omega) (by rw [l_0]; omega) (by rw [l_0]; omega) (fun h b => absurd b (by rw [l_0]; omega))⟩
/-- why a file may not be opened: -1 is no reason -/
def rfT (c : io_M) (f m : Int32) : Prop := m = 0 ∧ c 89 f.toNatClampNeg = 0
def rfD (c : io_M) (f m : Int32) : Prop := ((¬ m = 1 ∧ ¬ m = 2) ∧ (c 90 f.toNatClampNeg) &&& 1 = 0) ∨ (¬ m = 0 ∧ (c 90 f.toNatClampNeg) &&& 2 = 0)
def rfH (c : io_M) (f m : Int32) : Prop := (m = 0 ∧ hdC c f 1) ∨ (¬ m = 0 ∧ hdC c f 0)
def rfK (c : io_M) (f m k : Int32) : Prop := (k = 1 ∧ rfT c f m) ∨ (k = 2 ∧ ¬ rfT c f m ∧ rfD c f m) ∨ (k = 0 ∧ ¬ rfT c f m ∧ ¬ rfD c f m ∧ rfH c f m) ∨ (k = 5 ∧ ¬ rfT c f m ∧ ¬ rfD c f m ∧ ¬ rfH c f m ∧ 20 ≤ (c 101 2).toInt) ∨ (k = -1 ∧ ¬ rfT c f m ∧ ¬ rfD c f m ∧ ¬ rfH c f m ∧ (c 101 2).toInt < 20)
theorem xo_refuse (hC : io_CI c) (hf : 0 ≤ f.toInt ∧ f.toInt < 8) (hg : rfK c f m (-1) → post 0 c) (hb : ∀ k, (k = 0 ∨ k = 1 ∨ k = 2 ∨ k = 5) → rfK c f m k → post ((-1) - k) c) : wp_X3_refusalToOpen c f m post := by
  have hi := pz_in (n := 8).mpr hf
  have z20 := l_20
  have k81 : ¬ rfT c f m → ¬ rfD c f m → ∀ w : Int32, (hdC c f w ↔ rfH c f m) → wj_X3_refusalToOpen_81 c w f post := by
    intro hT hD w hw
    refine xh_isHeld hC (fun t => ⟨fun q => absurd q (by decide), fun _ => hb 0 (Or.inl rfl) (Or.inr (Or.inr (Or.inl ⟨rfl, hT, hD, hw.mp t⟩)))⟩) (fun t => ⟨fun _ => ⟨fun q => hg (Or.inr (Or.inr (Or.inr (Or.inr ⟨rfl, hT, hD, fun u => t (hw.mpr u), by have := pz_lt.mp q; omega⟩)))), fun q => hb 5 (Or.inr (Or.inr (Or.inr rfl))) (Or.inr (Or.inr (Or.inr (Or.inl ⟨rfl, hT, hD, fun u => t (hw.mpr u), by have := pz_nlt q; omega⟩))))⟩, fun q => absurd rfl q⟩)
  have k70 : ¬ rfT c f m → ¬ rfD c f m → ∀ y : Int32, (y = 0 ↔ m = 0) → wj_X3_refusalToOpen_70 c f y post := by
    intro hT hD y hy
    refine ⟨fun q => k81 hT hD 1 ⟨fun u => Or.inl ⟨hy.mp q, u⟩, fun u => ?_⟩, fun q => k81 hT hD 0 ⟨fun u => Or.inr ⟨fun v => q (hy.mpr v), u⟩, fun u => ?_⟩⟩
    · rcases u with u | u
      · exact u.2
      · exact absurd (hy.mp q) u.1
    · rcases u with u | u
      · exact absurd (hy.mpr u.1) q
      · exact u.2
  have k49 : ¬ rfT c f m → ¬ ((¬ m = 1 ∧ ¬ m = 2) ∧ (c 90 f.toNatClampNeg) &&& 1 = 0) → ∀ y : Int32, (y = 0 ↔ m = 0) → wj_X3_refusalToOpen_49 c f y post := by
    intro hT hD y hy
    refine ⟨fun q => k70 hT (fun d => ?_) y hy, fun q => ⟨hi, fun t => ⟨fun _ => hb 2 (Or.inr (Or.inr (Or.inl rfl))) (Or.inr (Or.inl ⟨rfl, hT, Or.inr ⟨fun u => q (hy.mpr u), t⟩⟩)), fun u => absurd rfl u⟩, fun t => ⟨fun u => absurd u (by decide), fun _ => k70 hT (fun d => ?_) y hy⟩⟩⟩
    · rcases d with d | d
      · exact hD d
      · exact d.1 (hy.mp q)
    · rcases d with d | d
      · exact hD d
      · exact t d.2
  have k30 : ¬ rfT c f m → ∀ y : Int32, (y = 0 ↔ m = 0) → wj_X3_refusalToOpen_30 c f m y post := by
    intro hT y hy
    refine ⟨fun q => ⟨fun _ => k49 hT (fun d => d.1.1 q) y hy, fun u => absurd rfl u⟩, fun q1 => ⟨fun q => ⟨fun _ => k49 hT (fun d => d.1.2 q) y hy, fun u => absurd rfl u⟩, fun q2 => ⟨fun u => absurd u (by decide), fun _ => ⟨hi, fun t => ⟨fun _ => hb 2 (Or.inr (Or.inr (Or.inl rfl))) (Or.inr (Or.inl ⟨rfl, hT, Or.inl ⟨⟨q1, q2⟩, t⟩⟩)), fun u => absurd rfl u⟩, fun t => ⟨fun u => absurd u (by decide), fun _ => k49 hT (fun d => t d.2) y hy⟩⟩⟩⟩⟩
  refine ⟨fun q => ⟨fun _ => ⟨hi, CI_89 hC _, fun t => hb 1 (Or.inr (Or.inl rfl)) (Or.inl ⟨rfl, q, t⟩), fun t => k30 (fun d => t d.2) 0 ⟨fun _ => q, fun _ => rfl⟩⟩, fun u => absurd rfl u⟩, fun q => ⟨fun u => absurd u (by decide), fun _ => k30 (fun d => q d.1) 1 ⟨fun u => absurd u (by decide), fun u => absurd u q⟩⟩⟩
theorem xo_rrefuse (hR : oR c x) (hf : 0 ≤ f.toInt ∧ f.toInt < 8) (hm : 0 ≤ m.toInt ∧ m.toInt < 4) (hK : rfK c f m k) (hp : post k x) : wp_X10_openRefused x f m post := by
  have hi := pz_in (n := 8).mpr hf
  obtain ⟨d1, d2, d3, d4, d5, d6, d7⟩ := hR.1.1 _ (pn_8 hf)
  have h16 := hR.2.1.1
  have z0 := l_0
  have z20 := l_20
  have hb20 := hR.2.1.2.1
  unfold rfK rfT rfD rfH at hK
  rw [d1, d2, h16] at hK
  -- the end of the questions
  have last : ∀ (q : Int32) (t : Prop), (q = 0 ∧ ¬ t ∨ q = 1 ∧ t) → (t ↔ ((m = 0 ∧ hdC c f 1) ∨ (¬ m = 0 ∧ hdC c f 0))) → ¬ (m = 0 ∧ x 112 f.toNatClampNeg = 0) → ¬ (((¬ m = 1 ∧ ¬ m = 2) ∧ (x 115 f.toNatClampNeg) &&& 1 = 0) ∨ (¬ m = 0 ∧ (x 115 f.toNatClampNeg) &&& 2 = 0)) → ((q = 0 → (((x 111 16) = 20 → post 5 x) ∧ (¬ ((x 111 16) = 20) → post (-1) x))) ∧ (¬ (q = 0) → post 0 x)) := by
    intro q t hq ht hT hD
    refine ⟨fun u => ⟨fun w => ?_, fun w => ?_⟩, fun u => ?_⟩
    · rcases hK with h | h | h | h | h
      · exact absurd h.2 hT
      · exact absurd h.2.2 hD
      · rcases hq with z | z
        · exact absurd (ht.mpr h.2.2.2) z.2
        · rw [u] at z; exact absurd z.1 (by decide)
      · rw [← h.1]; exact hp
      · have := h.2.2.2.2
        rw [w] at this
        omega
    · rcases hK with h | h | h | h | h
      · exact absurd h.2 hT
      · exact absurd h.2.2 hD
      · rcases hq with z | z
        · exact absurd (ht.mpr h.2.2.2) z.2
        · rw [u] at z; exact absurd z.1 (by decide)
      · exact absurd (pz_eq.mpr (by omega)) w
      · rw [← h.1]; exact hp
    · rcases hq with z | z
      · exact absurd z.1 u
      · rcases hK with h | h | h | h | h
        · exact absurd h.2 hT
        · exact absurd h.2.2 hD
        · rw [← h.1]; exact hp
        · exact absurd (ht.mp z.2) h.2.2.2.1
        · exact absurd (ht.mp z.2) h.2.2.2.1
  have k52 : ¬ (m = 0 ∧ x 112 f.toNatClampNeg = 0) → ¬ (((¬ m = 1 ∧ ¬ m = 2) ∧ (x 115 f.toNatClampNeg) &&& 1 = 0) ∨ (¬ m = 0 ∧ (x 115 f.toNatClampNeg) &&& 2 = 0)) → wj_X10_openRefused_52 x f m post := by
    intro hT hD
    refine ⟨fun q => xw_isHeld hR.2.1 (fun t => last 1 (hdC c f 1) (Or.inr ⟨rfl, t⟩) ⟨fun u => Or.inl ⟨q, u⟩, fun u => t⟩ hT hD) (fun t => last 0 (hdC c f 1) (Or.inl ⟨rfl, t⟩) ⟨fun u => Or.inl ⟨q, u⟩, fun u => ?_⟩ hT hD), fun q => xr_isHeld hR.2.1 (fun t => last 1 (hdC c f 0) (Or.inr ⟨rfl, t⟩) ⟨fun u => Or.inr ⟨q, u⟩, fun u => t⟩ hT hD) (fun t => last 0 (hdC c f 0) (Or.inl ⟨rfl, t⟩) ⟨fun u => Or.inr ⟨q, u⟩, fun u => ?_⟩ hT hD)⟩
    · rcases u with u | u
      · exact u.2
      · exact absurd q u.1
    · rcases u with u | u
      · exact absurd u.1 q
      · exact u.2
  have dn : ¬ (m = 0 ∧ x 112 f.toNatClampNeg = 0) → (((¬ m = 1 ∧ ¬ m = 2) ∧ (x 115 f.toNatClampNeg) &&& 1 = 0) ∨ (¬ m = 0 ∧ (x 115 f.toNatClampNeg) &&& 2 = 0)) → post 2 x := by
    intro hT hD
    rcases hK with h | h | h | h | h
    · exact absurd h.2 hT
    · rw [← h.1]; exact hp
    · exact absurd hD h.2.2.1
    · exact absurd hD h.2.2.1
    · exact absurd hD h.2.2.1
  have k35 : ¬ (m = 0 ∧ x 112 f.toNatClampNeg = 0) → ¬ ((¬ m = 1 ∧ ¬ m = 2) ∧ (x 115 f.toNatClampNeg) &&& 1 = 0) → wj_X10_openRefused_35 x f m post := by
    intro hT hD
    refine ⟨fun q => k52 hT (fun d => ?_), fun q => ⟨hi, fun t => dn hT (Or.inr ⟨q, t⟩), fun t => k52 hT (fun d => ?_)⟩⟩
    · rcases d with d | d
      · exact hD d
      · exact d.1 q
    · rcases d with d | d
      · exact hD d
      · exact t d.2
  have k24 : ¬ (m = 0 ∧ x 112 f.toNatClampNeg = 0) → (¬ m = 1 ∧ ¬ m = 2) → wj_X10_openRefused_24 x f m post := fun hT hq => ⟨hi, fun t => dn hT (Or.inl ⟨hq, t⟩), fun t => k35 hT (fun d => t d.2)⟩
  have k15 : ¬ (m = 0 ∧ x 112 f.toNatClampNeg = 0) → wj_X10_openRefused_15 x f m post := by
    intro hT
    refine ⟨fun q => k24 hT (by rw [q]; decide), fun q => ⟨fun u => k24 hT (by rw [u]; decide), fun u => k35 hT (fun d => ?_)⟩⟩
    have a0 : ¬ m.toInt = 0 := fun t => q (pz_eq.mpr (by omega))
    have a1 : ¬ m.toInt = 1 := fun t => d.1.1 (pz_eq.mpr (by rw [l_1]; exact t))
    have a2 : ¬ m.toInt = 2 := fun t => d.1.2 (pz_eq.mpr (by rw [l_2]; exact t))
    have a3 : ¬ m.toInt = 3 := fun t => u (pz_eq.mpr (by rw [l_3]; exact t))
    omega
  refine ⟨fun q => ⟨hi, fun t => ?_, fun t => k15 (fun d => t d.2)⟩, fun q => k15 (fun d => q d.1)⟩
  rcases hK with h | h | h | h | h
  · rw [← h.1]; exact hp
  · exact absurd ⟨q, t⟩ h.2.1
  · exact absurd ⟨q, t⟩ h.2.1
  · exact absurd ⟨q, t⟩ h.2.1
  · exact absurd ⟨q, t⟩ h.2.1
end EM
