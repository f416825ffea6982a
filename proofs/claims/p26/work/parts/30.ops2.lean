/-! AREAS, SETTINGS, EXTRA WORK, SWAPS: the same data, and what holds still holds -/
def addAN (S : HA) (e p g : Int32) : HA := Wc (Wc (Wc (app S 1) 1 (sz S 1) 0 e) 1 (sz S 1) 1 p) 1 (sz S 1) 2 g
theorem addA_eq {S : HA} {e p g : Int32} (h : sz S 1 < 6) : addAreaS S e p g = addAN S e p g := by
  have q : sz (app S 1) 1 = sz S 1 + 1 := by rw [sz_app, if_pos rfl]
  unfold addAreaS
  simp only
  rw [wc0 (by omega) (by decide) (by omega), wc1 (by rw [sz_W]; omega) (by decide) (by rw [sz_W]; omega), wc2 (by rw [sz_W, sz_W]; omega) (by decide) (by rw [sz_W, sz_W]; omega)]
  rfl
def rowA (f : Nat → Int32) (k : Nat) (e p g : Int32) : Nat → Int32 := sA (sA (sA (sA (sA (upd f 2 (nI (k + 1))) k 0 e) k 1 p) k 2 g) k 3 0) k 4 0
theorem e_addA {S : HA} {f : Nat → Int32} (h : ED S f) (hC : VC S) (hlt : sz S 1 < 6) (e p g : Int32) : ED (addAreaS S e p g) (rowA f (sz S 1) e p g) := by
  rw [addA_eq hlt]
  obtain ⟨⟨hb0, hb1, hb2, hb3⟩, ⟨hs0, hs4, hs5, hs6⟩, ⟨hc1, hc2, hc3, hc7⟩, hg, ho, ha, hk, hw⟩ := h
  have s0 : sz (addAN S e p g) 1 = sz S 1 + 1 := by rw [addAN, sz_W, sz_W, sz_W, sz_app, if_pos rfl]
  have s : ∀ j, j ≠ 1 → sz (addAN S e p g) j = sz S j := fun j hj => by rw [addAN, sz_W, sz_W, sz_W, sz_app, if_neg hj]
  have c1 : ∀ j r c, j ≠ 1 → ce (addAN S e p g) j r c = ce S j r c := fun j r c hj => by rw [addAN, ce_W_ne hj, ce_W_ne hj, ce_W_ne hj, ce_app]
  have c0 : ∀ r c, r ≠ sz S 1 → ce (addAN S e p g) 1 r c = ce S 1 r c := fun r c hr => by rw [addAN, ce_W_r hr, ce_W_r hr, ce_W_r hr, ce_app]
  have lo : ∀ j, j < 60 → j ≠ 2 → rowA f (sz S 1) e p g j = f j := fun j h1 h2 => by
    simp only [rowA, sA_lo h1, up_ne h2]
  have hi : ∀ j, 90 ≤ j → rowA f (sz S 1) e p g j = f j := fun j h1 => by
    rw [rowA, sA_hi (by omega), sA_hi (by omega), sA_hi (by omega), sA_hi (by omega), sA_hi (by omega), up_ne (by omega)]
  refine ⟨⟨by rw [s 0 (by decide)]; exact hb0, by rw [s0]; omega, by rw [s 2 (by decide)]; exact hb2, by rw [s 3 (by decide)]; exact hb3⟩, ⟨?_, ?_, ?_, ?_⟩, ⟨?_, ?_, ?_, ?_⟩, ?_, ?_, ?_, ?_, ?_⟩
  · rw [lo 0 (by decide) (by decide)]; exact hs0
  · rw [lo 4 (by decide) (by decide)]; exact hs4
  · rw [lo 5 (by decide) (by decide)]; exact hs5
  · rw [lo 6 (by decide) (by decide)]; exact hs6
  · rw [lo 1 (by decide) (by decide), s 0 (by decide)]; exact hc1
  · rw [s0]; simp only [rowA, sA_lo (show 2 < 60 by decide), up_at]
  · rw [lo 3 (by decide) (by decide), s 2 (by decide)]; exact hc3
  · rw [lo 7 (by decide) (by decide), s 3 (by decide)]; exact hc7
  · intro j hj
    rw [lo _ (by omega) (by omega), c1 4 0 j (by decide)]; exact hg j hj
  · intro r hr
    rw [s 0 (by decide)] at hr
    have := ho r hr
    have m : ∀ c, c < 6 → mo (rowA f (sz S 1) e p g) r c = mo f r c := fun c hc => lo _ (by omega) (by omega)
    rw [m 0 (by decide), m 1 (by decide), m 2 (by decide), m 3 (by decide), m 4 (by decide), m 5 (by decide), c1 0 r 0 (by decide), c1 0 r 1 (by decide), c1 0 r 2 (by decide), c1 0 r 3 (by decide), c1 0 r 4 (by decide), c1 0 r 5 (by decide)]
    exact this
  · intro a c h1 h2
    rw [s0] at h1
    by_cases q : a = sz S 1
    · subst q
      have z : ∀ c, ce S 1 (sz S 1) c = 0 := fun c => hC 1 _ c (by decide) (Nat.le_refl _)
      have ee : ce (addAN S e p g) 1 (sz S 1) c = if c = 2 then g else if c = 1 then p else if c = 0 then e else 0 := by
        rw [addAN, ce_W, ce_W, ce_W, ce_app, z]
        simp only [true_and]
      rw [ee]
      unfold rowA
      match c, h2 with
      | 0, _ => simp (disch := omega) only [ma_sA_ne, ma_sA_at]; rfl
      | 1, _ => simp (disch := omega) only [ma_sA_ne, ma_sA_at]; rfl
      | 2, _ => simp (disch := omega) only [ma_sA_ne, ma_sA_at]; rfl
      | 3, _ => simp (disch := omega) only [ma_sA_ne, ma_sA_at]; rfl
      | 4, _ => simp (disch := omega) only [ma_sA_at]; rfl
    · rw [c0 a c q, ← ha a c (by omega) h2]
      unfold rowA
      simp (disch := omega) only [ma_sA_ne, ma_up]
  · intro t c h1 h2
    rw [s 2 (by decide)] at h1
    rw [c1 2 t c (by decide), ← hk t c h1 h2]
    exact hi _ (by omega)
  · intro t c h1 h2
    rw [s 3 (by decide)] at h1
    rw [c1 3 t c (by decide), ← hw t c h1 h2]
    exact hi _ (by omega)
theorem v_addA {S : HA} {n e p : Nat} {g : Int32} (hV : V S n) (hlt : sz S 1 < 6) (h1 : 1 ≤ e) (h2 : e ≤ 20) (h3 : 1 ≤ p) (h4 : p ≤ 4) : V (addAreaS S (nI e) (nI p) g) n := by
  rw [addA_eq hlt]
  obtain ⟨⟨a1, ⟨b0, b1, b2, b3⟩, a3, a4⟩, a5, a6, a7, a8, a9, a10⟩ := hV
  have s0 : sz (addAN S (nI e) (nI p) g) 1 = sz S 1 + 1 := by rw [addAN, sz_W, sz_W, sz_W, sz_app, if_pos rfl]
  have s : ∀ j, j ≠ 1 → sz (addAN S (nI e) (nI p) g) j = sz S j := fun j hj => by rw [addAN, sz_W, sz_W, sz_W, sz_app, if_neg hj]
  have c1 : ∀ j r c, j ≠ 1 → ce (addAN S (nI e) (nI p) g) j r c = ce S j r c := fun j r c hj => by rw [addAN, ce_W_ne hj, ce_W_ne hj, ce_W_ne hj, ce_app]
  have c0 : ∀ r c, r ≠ sz S 1 → ce (addAN S (nI e) (nI p) g) 1 r c = ce S 1 r c := fun r c hr => by rw [addAN, ce_W_r hr, ce_W_r hr, ce_W_r hr, ce_app]
  have c2 := fun t c => c1 2 t c (by decide)
  refine ⟨⟨inv_same a1 rfl (s 2 (by decide)), ⟨by rw [s 0 (by decide)]; exact b0, by rw [s0]; omega, by rw [s 2 (by decide)]; exact b2, by rw [s 3 (by decide)]; exact b3⟩, by rw [s 4 (by decide)]; exact a3, a4⟩, ?_, ⟨fun a ha => ?_, by rw [c1 4 0 2 (by decide)]; exact a6.2⟩, fun t ht => ?_, ⟨fun t u => ?_, fun t ht => ?_⟩, fun t c ht hc => ?_, ?_⟩
  · intro r hr
    rw [s 0 (by decide)] at hr
    rw [s 2 (by decide), os_of c2, c1 0 r 0 (by decide), c1 0 r 3 (by decide), c1 0 r 4 (by decide), c1 0 r 6 (by decide)]
    exact a5 r hr
  · rw [s0] at ha
    by_cases q : a = sz S 1
    · subst q
      have ee : ∀ c, ce (addAN S (nI e) (nI p) g) 1 (sz S 1) c = if c = 2 then g else if c = 1 then nI p else if c = 0 then nI e else ce S 1 (sz S 1) c := fun c => by
        rw [addAN, ce_W, ce_W, ce_W, ce_app]
        simp only [true_and]
      rw [ee 0, ee 1]
      exact ⟨⟨e, h1, h2, rfl⟩, ⟨p, h3, h4, rfl⟩⟩
    · rw [c0 a 0 q, c0 a 1 q]
      exact a6.1 a (by omega)
  · rw [s 2 (by decide)] at ht
    obtain ⟨⟨a, k0, k0'⟩, k1, k2⟩ := a7 t ht
    rw [c2, c2, c2, c2, c2, s0, s 0 (by decide)]
    exact ⟨⟨a, by omega, k0'⟩, k1, k2⟩
  · rw [c2, c2, c2, c2, s 2 (by decide)]
    exact a8.1 t u
  · rw [s 2 (by decide)] at ht ⊢
    rw [c2, c2, c2]
    intro h
    rcases a8.2 t ht h with q | ⟨u, q1, q2⟩
    · exact Or.inl q
    · exact Or.inr ⟨u, q1, by rw [c2]; exact q2⟩
  · rw [s 3 (by decide)] at ht
    obtain ⟨u, g1, g2, g3⟩ := a9 t c ht hc
    exact ⟨u, by rw [s 2 (by decide)]; exact g1, by rw [c1 3 t c (by decide)]; exact g2, by rw [c2]; exact g3⟩
  · have q : sz (app S 1) 1 = sz S 1 + 1 := by rw [sz_app, if_pos rfl]
    exact vc_W (vc_W (vc_W (vc_app a10) (by omega)) (by rw [sz_W]; omega)) (by rw [sz_W, sz_W]; omega)
theorem v_set {S : HA} {n j : Nat} {v : Int32} (hV : V S n) (h2 : j = 2 → ∃ d, 2 ≤ d ∧ d ≤ 6 ∧ v = nI d) : V (Wc S 4 0 j v) n := by
  refine v_of hV (fun x hx => ⟨by rw [ce_W_ne (by decide)]; exact (hV.2.1 x hx).1, fun c hc => ce_W_ne (by decide)⟩) (fun a _ => ⟨ce_W_ne (by decide), ce_W_ne (by decide)⟩) (fun _ _ => ce_W_ne (by decide)) (fun _ _ => ce_W_ne (by decide)) ?_ (fun _ => sz_W) rfl (vc_W hV.2.2.2.2.2.2 (by rw [hV.1.2.2.1]; decide))
  rw [ce_W]
  by_cases q : j = 2
  · rw [if_pos ⟨rfl, q.symm⟩]; exact h2 q
  · rw [if_neg (fun z => q z.2.symm)]; exact hV.2.2.1.2
-- extra work
theorem Wc_comm {S : HA} {j r c j' r' c' : Nat} {v v' : Int32} (h : j ≠ j') : Wc (Wc S j r c v) j' r' c' v' = Wc (Wc S j' r' c' v') j r c v := by
  refine Prod.ext ?_ rfl
  funext i
  have e1 : (Wc S j r c v).1 j' = S.1 j' := if_neg (Ne.symm h)
  have e2 : (Wc S j' r' c' v').1 j = S.1 j := if_neg h
  show (if i = j' then (((Wc S j r c v).1 j').1, fun r1 c1 => if r1 = r' ∧ c1 = c' then v' else ((Wc S j r c v).1 j').2 r1 c1) else (Wc S j r c v).1 i) = (if i = j then (((Wc S j' r' c' v').1 j).1, fun r1 c1 => if r1 = r ∧ c1 = c then v else ((Wc S j' r' c' v').1 j).2 r1 c1) else (Wc S j' r' c' v').1 i)
  rw [e1, e2]
  by_cases q : i = j
  · subst q
    rw [if_neg h, if_pos rfl]
    exact if_pos rfl
  · by_cases q' : i = j'
    · subst q'
      rw [if_pos rfl, if_neg q]
      exact (if_pos rfl).symm
    · rw [if_neg q', if_neg q]
      exact (if_neg q).trans (if_neg q').symm
def payN (S : HA) (r a : Nat) (p : Int32) : HA := Wc (Wc (clN S a) 0 r 4 (ce S 0 r 4 + -p)) 0 r 3 (ce S 0 r 3 + p)
def payP (S : HA) (r a : Nat) : Int32 := if ce S 0 r 4 < ce S 1 a 0 then ce S 0 r 4 else ce S 1 a 0
theorem pay_eq {S : HA} {r a : Nat} (hb : EB S) (hr : r < sz S 0) (ha : a < sz S 1) : payS S (nI r) (nI a) = payN S r a (payP S r a) := by
  obtain ⟨hb0, hb1, hb2, hb3⟩ := hb
  unfold payS
  simp only
  rw [cl4 (by omega), cl0 (by omega), inc4 hr (by decide) (by omega), inc3 (by rw [sz_W]; exact hr) (by decide) (by rw [sz_W]; omega), clean_eq (by rw [sz_W, sz_W]; exact ha) (by rw [sz_W, sz_W]; exact hb1), ce_W_c (by decide)]
  unfold payN clN payP
  rw [ce_W_ne (by decide), ce_W_ne (by decide)]
  rw [Wc_comm (j := 0) (j' := 1) (by decide), Wc_comm (j := 0) (j' := 1) (by decide), Wc_comm (j := 0) (j' := 1) (by decide), Wc_comm (j := 0) (j' := 1) (by decide)]
theorem e_pay {S : HA} {f : Nat → Int32} {r a : Nat} (h : ED S f) (hr : r < sz S 0) (ha : a < sz S 1) : ED (payS S (nI r) (nI a)) (ext f r a) := by
  have hb := h.1
  rw [pay_eq hb hr ha]
  have E1 := e_clean h ha
  have o := h.2.2.2.2.1 r hr
  have eA := h.2.2.2.2.2.1 a 0 ha (by decide)
  have c0 : ∀ r c, ce (clN S a) 0 r c = ce S 0 r c := fun r c => by rw [clN, ce_W_ne (by decide), ce_W_ne (by decide)]
  have sc : ∀ j, sz (clN S a) j = sz S j := fun j => by rw [clN, sz_W, sz_W]
  have o1 := E1.2.2.2.2.1 r (by rw [sc]; exact hr)
  have ep : (if ma f a 0 ≤ mo f r 2 then ma f a 0 else mo f r 2) = payP S r a := by
    rw [eA, o.2.2.1, payP]
    by_cases q : ce S 0 r 4 < ce S 1 a 0
    · rw [if_pos q, if_neg (Int32.not_le.mpr q)]
    · rw [if_neg q, if_pos (Int32.not_lt.mp q)]
  have E2 := e_so4 E1 (r := r) (by rw [sc]; exact hr) (ce S 0 r 4 + -(payP S r a))
  have E3 := e_so3 E2 (r := r) (by rw [sz_W, sc]; exact hr) (ce S 0 r 3 + payP S r a)
  have ef : ext f r a = so (so (cleanM f a) r 2 (ce S 0 r 4 + -(payP S r a))) r 1 (ce S 0 r 3 + payP S r a) := by
    unfold ext
    simp only
    rw [ep, o1.2.2.1, c0, mo_so_ne (by decide) (by decide) (by omega), o1.2.1, c0, Int32.sub_eq_add_neg]
  rw [ef]
  exact E3
theorem v_pay {S : HA} {n r a : Nat} (hV : V S n) (hn : n < 2 ^ 30) (hr : r < sz S 0) (ha : a < sz S 1) : V (payS S (nI r) (nI a)) (n + 20) := by
  rw [pay_eq hV.1.2.1 hr ha]
  have hB := (vb_clean hV.b ha)
  have h0 : ∀ r c, ce (clN S a) 0 r c = ce S 0 r c := fun r c => by rw [clN, ce_W_ne (by decide), ce_W_ne (by decide)]
  have h2 : ∀ r c, ce (clN S a) 2 r c = ce S 2 r c := fun r c => by rw [clN, ce_W_ne (by decide), ce_W_ne (by decide)]
  have h3 : ∀ r c, ce (clN S a) 3 r c = ce S 3 r c := fun r c => by rw [clN, ce_W_ne (by decide), ce_W_ne (by decide)]
  have sc : ∀ j, sz (clN S a) j = sz S j := fun j => by rw [clN, sz_W, sz_W]
  obtain ⟨⟨e, e1, e2, e3⟩, -⟩ := hV.2.2.1.1 a ha
  obtain ⟨-, -, ⟨kd, d1, d2⟩, -⟩ := hV.2.1 r hr
  have hp : ∃ p, p ≤ 20 ∧ p ≤ kd ∧ payP S r a = nI p := by
    rw [payP, d2, e3]
    by_cases q : kd < e
    · rw [if_pos ((nI_ltI (by omega) (by omega)).mpr q)]; exact ⟨kd, by omega, Nat.le_refl _, rfl⟩
    · rw [if_neg (fun z => q ((nI_ltI (by omega) (by omega)).mp z))]; exact ⟨e, e2, by omega, rfl⟩
  obtain ⟨p, p1, p2, p3⟩ := hp
  rw [p3]
  obtain ⟨⟨a1, ⟨b0, b1, b2, b3⟩, a3, a4⟩, a5, a6, a7, a8, a10⟩ := hB
  have s : ∀ j, sz (payN S r a (nI p)) j = sz S j := fun j => by rw [payN, sz_W, sz_W, sc]
  have c1 : ∀ j x c, j ≠ 0 → ce (payN S r a (nI p)) j x c = ce (clN S a) j x c := fun j x c hj => by rw [payN, ce_W_ne hj, ce_W_ne hj]
  have c0 : ∀ x c, c ≠ 3 → c ≠ 4 → ce (payN S r a (nI p)) 0 x c = ce S 0 x c := fun x c g3 g4 => by rw [payN, ce_W_c g3, ce_W_c g4, h0]
  have cr : ∀ x c, x ≠ r → ce (payN S r a (nI p)) 0 x c = ce S 0 x c := fun x c g => by rw [payN, ce_W_r g, ce_W_r g, h0]
  have c2 : ∀ t c, ce (payN S r a (nI p)) 2 t c = ce (clN S a) 2 t c := fun t c => c1 2 t c (by decide)
  refine VB.v ⟨⟨inv_same a1 rfl (by rw [s, sc]), ⟨by rw [s]; rw [sc] at b0; exact b0, by rw [s]; rw [sc] at b1; exact b1, by rw [s]; rw [sc] at b2; exact b2, by rw [s]; rw [sc] at b3; exact b3⟩, by rw [s]; rw [sc] at a3; exact a3, a4⟩, ?_, ⟨fun x hx => ?_, by rw [c1 4 0 2 (by decide)]; exact a6.2⟩, fun t ht => ?_, ⟨fun t u => ?_, fun t ht => ?_⟩, ?_⟩ ?_
  · intro x hx
    rw [s] at hx
    obtain ⟨g1, ⟨k, g2, g3⟩, ⟨k', g4, g5⟩, g6⟩ := hV.2.1 x hx
    rw [s, os_of (fun t c => (c2 t c).trans (h2 t c)), c0 x 0 (by decide) (by decide), c0 x 6 (by decide) (by decide)]
    by_cases q : x = r
    · subst q
      refine ⟨g1, ⟨k + p, by omega, ?_⟩, ⟨kd - p, by omega, ?_⟩, g6⟩
      · rw [payN, ce_W_at, g3, nI_add]
      · rw [payN, ce_W_c (by decide), ce_W_at, d2, nI_sub p2]
    · rw [cr x 3 q, cr x 4 q]
      exact ⟨g1, ⟨k, by omega, g3⟩, ⟨k', by omega, g5⟩, g6⟩
  · rw [s] at hx
    rw [c1 1 x 0 (by decide), c1 1 x 1 (by decide)]
    exact a6.1 x (by rw [sc]; exact hx)
  · rw [s] at ht
    have := a7 t (by rw [sc]; exact ht)
    rw [c2, c2, c2, c2, c2, s, s]
    rw [sc, sc] at this
    exact this
  · rw [c2, c2, c2, c2, s]
    have := a8.1 t u
    rw [sc] at this
    exact this
  · rw [s] at ht ⊢
    have := a8.2 t (by rw [sc]; exact ht)
    rw [sc] at this
    rw [c2, c2, c2]
    intro h
    rcases this h with q | ⟨u, q1, q2⟩
    · exact Or.inl q
    · exact Or.inr ⟨u, q1, by rw [c2]; exact q2⟩
  · exact vc_W (vc_W a10 (by rw [sc]; exact hr)) (by rw [sz_W, sc]; exact hr)
  · intro t c ht hc
    rw [s] at ht
    obtain ⟨u, g1, g2, g3⟩ := hV.w t c ht hc
    exact ⟨u, by rw [s]; exact g1, by rw [c1 3 t c (by decide), h3]; exact g2, by rw [c2, h2]; exact g3⟩
-- proposing
def addWN (S : HA) (a b : Int32) : HA := Wc (Wc (app S 3) 3 (sz S 3) 0 a) 3 (sz S 3) 1 b
theorem addW_eq {S : HA} {a b : Int32} (h : sz S 3 < 6) : addSwS S a b = addWN S a b := by
  have q : sz (app S 3) 3 = sz S 3 + 1 := by rw [sz_app, if_pos rfl]
  unfold addSwS
  simp only
  rw [wc0 (by omega) (by decide) (by omega), wc1 (by rw [sz_W]; omega) (by decide) (by rw [sz_W]; omega)]
  rfl
def rowW (f : Nat → Int32) (k : Nat) (a b : Int32) : Nat → Int32 := upd (upd (upd f (150 + 2 * k) a) (150 + 2 * k + 1) b) 7 (nI (k + 1))
theorem e_addW {S : HA} {f : Nat → Int32} (h : ED S f) (hlt : sz S 3 < 6) (a b : Int32) : ED (addSwS S a b) (rowW f (sz S 3) a b) := by
  rw [addW_eq hlt]
  obtain ⟨⟨hb0, hb1, hb2, hb3⟩, ⟨hs0, hs4, hs5, hs6⟩, ⟨hc1, hc2, hc3, hc7⟩, hg, ho, ha, hk, hw⟩ := h
  have s0 : sz (addWN S a b) 3 = sz S 3 + 1 := by rw [addWN, sz_W, sz_W, sz_app, if_pos rfl]
  have s : ∀ j, j ≠ 3 → sz (addWN S a b) j = sz S j := fun j hj => by rw [addWN, sz_W, sz_W, sz_app, if_neg hj]
  have c1 : ∀ j r c, j ≠ 3 → ce (addWN S a b) j r c = ce S j r c := fun j r c hj => by rw [addWN, ce_W_ne hj, ce_W_ne hj, ce_app]
  have lo : ∀ j, j < 150 → j ≠ 7 → rowW f (sz S 3) a b j = f j := fun j h1 h2 => by
    rw [rowW, up_ne h2, up_ne (by omega), up_ne (by omega)]
  refine ⟨⟨by rw [s 0 (by decide)]; exact hb0, by rw [s 1 (by decide)]; exact hb1, by rw [s 2 (by decide)]; exact hb2, by rw [s0]; omega⟩, ⟨?_, ?_, ?_, ?_⟩, ⟨?_, ?_, ?_, ?_⟩, ?_, ?_, ?_, ?_, ?_⟩
  · rw [lo 0 (by decide) (by decide)]; exact hs0
  · rw [lo 4 (by decide) (by decide)]; exact hs4
  · rw [lo 5 (by decide) (by decide)]; exact hs5
  · rw [lo 6 (by decide) (by decide)]; exact hs6
  · rw [lo 1 (by decide) (by decide), s 0 (by decide)]; exact hc1
  · rw [lo 2 (by decide) (by decide), s 1 (by decide)]; exact hc2
  · rw [lo 3 (by decide) (by decide), s 2 (by decide)]; exact hc3
  · rw [s0, rowW, up_at]
  · intro j hj
    rw [lo _ (by omega) (by omega), c1 4 0 j (by decide)]; exact hg j hj
  · intro r hr
    rw [s 0 (by decide)] at hr
    have m : ∀ c, c < 6 → mo (rowW f (sz S 3) a b) r c = mo f r c := fun c hc => lo _ (by omega) (by omega)
    rw [m 0 (by decide), m 1 (by decide), m 2 (by decide), m 3 (by decide), m 4 (by decide), m 5 (by decide), c1 0 r 0 (by decide), c1 0 r 1 (by decide), c1 0 r 2 (by decide), c1 0 r 3 (by decide), c1 0 r 4 (by decide), c1 0 r 5 (by decide)]
    exact ho r hr
  · intro t c h1 h2
    rw [s 1 (by decide)] at h1
    rw [c1 1 t c (by decide), ← ha t c h1 h2]
    exact lo _ (by omega) (by omega)
  · intro t c h1 h2
    rw [s 2 (by decide)] at h1
    rw [c1 2 t c (by decide), ← hk t c h1 h2]
    exact lo _ (by omega) (by omega)
  · intro t c h1 h2
    rw [s0] at h1
    have ee : ce (addWN S a b) 3 t c = if t = sz S 3 ∧ c = 1 then b else if t = sz S 3 ∧ c = 0 then a else ce S 3 t c := by
      rw [addWN, ce_W, ce_W, ce_app]
    rw [ee]
    unfold mw rowW
    rw [up_ne (by omega)]
    by_cases q : t = sz S 3
    · subst q
      rcases (show c = 0 ∨ c = 1 by omega) with q | q
      · subst q
        rw [up_ne (by omega), if_neg (fun z => absurd z.2 (by decide)), if_pos ⟨rfl, rfl⟩]
        exact up_at
      · subst q
        rw [up_at, if_pos ⟨rfl, rfl⟩]
    · rw [up_ne (by omega), up_ne (by omega), if_neg (fun z => q z.1), if_neg (fun z => q z.1)]
      exact hw t c (by omega) h2
theorem v_addW {S : HA} {n a b : Nat} (hV : V S n) (hlt : sz S 3 < 6) (ha : a < sz S 2) (hao : ce S 2 a 3 = 0) (hb : b < sz S 2) (hbo : ce S 2 b 3 = 0) : V (addSwS S (nI a) (nI b)) n := by
  rw [addW_eq hlt]
  have s0 : sz (addWN S (nI a) (nI b)) 3 = sz S 3 + 1 := by rw [addWN, sz_W, sz_W, sz_app, if_pos rfl]
  have s : ∀ j, j ≠ 3 → sz (addWN S (nI a) (nI b)) j = sz S j := fun j hj => by rw [addWN, sz_W, sz_W, sz_app, if_neg hj]
  have c1 : ∀ j r c, j ≠ 3 → ce (addWN S (nI a) (nI b)) j r c = ce S j r c := fun j r c hj => by rw [addWN, ce_W_ne hj, ce_W_ne hj, ce_app]
  obtain ⟨⟨a1, ⟨b0, b1, b2, b3⟩, a3, a4⟩, a5, a6, a7, a8, a9, a10⟩ := hV
  have c2 := fun t c => c1 2 t c (by decide)
  refine ⟨⟨inv_same a1 rfl (s 2 (by decide)), ⟨by rw [s 0 (by decide)]; exact b0, by rw [s 1 (by decide)]; exact b1, by rw [s 2 (by decide)]; exact b2, by rw [s0]; omega⟩, by rw [s 4 (by decide)]; exact a3, a4⟩, ?_, ⟨fun x hx => ?_, by rw [c1 4 0 2 (by decide)]; exact a6.2⟩, fun t ht => ?_, ⟨fun t u => ?_, fun t ht => ?_⟩, fun t c ht hc => ?_, ?_⟩
  · intro r hr
    rw [s 0 (by decide)] at hr
    rw [s 2 (by decide), os_of c2, c1 0 r 0 (by decide), c1 0 r 3 (by decide), c1 0 r 4 (by decide), c1 0 r 6 (by decide)]
    exact a5 r hr
  · rw [s 1 (by decide)] at hx
    rw [c1 1 x 0 (by decide), c1 1 x 1 (by decide)]
    exact a6.1 x hx
  · rw [s 2 (by decide)] at ht
    rw [c2, c2, c2, c2, c2, s 0 (by decide), s 1 (by decide)]
    exact a7 t ht
  · rw [c2, c2, c2, c2, s 2 (by decide)]
    exact a8.1 t u
  · rw [s 2 (by decide)] at ht ⊢
    rw [c2, c2, c2]
    intro h
    rcases a8.2 t ht h with q | ⟨u, q1, q2⟩
    · exact Or.inl q
    · exact Or.inr ⟨u, q1, by rw [c2]; exact q2⟩
  · rw [s0] at ht
    have ee : ce (addWN S (nI a) (nI b)) 3 t c = if t = sz S 3 ∧ c = 1 then nI b else if t = sz S 3 ∧ c = 0 then nI a else ce S 3 t c := by
      rw [addWN, ce_W, ce_W, ce_app]
    rw [ee, s 2 (by decide)]
    by_cases q : t = sz S 3
    · rcases (show c = 0 ∨ c = 1 by omega) with q' | q'
      · rw [if_neg (fun z => absurd z.2 (by omega)), if_pos ⟨q, q'⟩]
        exact ⟨a, ha, rfl, by rw [c2]; exact hao⟩
      · rw [if_pos ⟨q, q'⟩]
        exact ⟨b, hb, rfl, by rw [c2]; exact hbo⟩
    · rw [if_neg (fun z => q z.1), if_neg (fun z => q z.1)]
      obtain ⟨u, g1, g2, g3⟩ := a9 t c (by omega) hc
      exact ⟨u, g1, g2, by rw [c2]; exact g3⟩
  · have q : sz (app S 3) 3 = sz S 3 + 1 := by rw [sz_app, if_pos rfl]
    exact vc_W (vc_W (vc_app a10) (by omega)) (by rw [sz_W]; omega)
-- taking a swap away
theorem v_rm {S : HA} {n s0 : Nat} (hV : V S n) (hs : s0 < sz S 3) : V (setT S 3 (trem (S.1 3) s0)) n := by
  have c : ∀ j r c, j ≠ 3 → ce (setT S 3 (trem (S.1 3) s0)) j r c = ce S j r c := fun j r c hj => ce_T_ne hj
  have s : ∀ j, j ≠ 3 → sz (setT S 3 (trem (S.1 3) s0)) j = sz S j := fun j hj => sz_T_ne hj
  have s3 : sz (setT S 3 (trem (S.1 3) s0)) 3 = sz S 3 - 1 := by rw [sz_T]; rfl
  have c3 : ∀ r c, ce (setT S 3 (trem (S.1 3) s0)) 3 r c = if r < s0 then ce S 3 r c else ce S 3 (r + 1) c := fun r c => by rw [ce_T]; rfl
  refine VB.v (vb_of hV.b (fun r c' => c 0 r c' (by decide)) (fun r c' _ => c 1 r c' (by decide)) (fun r c' => c 2 r c' (by decide)) (fun r c' => c 4 r c' (by decide)) (s 0 (by decide)) (s 1 (by decide)) (s 2 (by decide)) (by rw [s3]; omega) (s 4 (by decide)) rfl rfl ?_) ?_
  · intro j r c' hj hr
    by_cases q : j = 3
    · subst q
      rw [s3] at hr
      rw [c3, if_neg (by omega)]
      exact hV.2.2.2.2.2.2 3 _ _ (by decide) (by omega)
    · rw [c j r c' q]
      rw [s j q] at hr
      exact hV.2.2.2.2.2.2 j r c' hj hr
  · intro t c' ht hc
    rw [s3] at ht
    rw [c3, s 2 (by decide)]
    by_cases q : t < s0
    · rw [if_pos q]
      obtain ⟨u, g1, g2, g3⟩ := hV.w t c' (by omega) hc
      exact ⟨u, g1, g2, by rw [c 2 u 3 (by decide)]; exact g3⟩
    · rw [if_neg q]
      obtain ⟨u, g1, g2, g3⟩ := hV.w (t + 1) c' (by omega) hc
      exact ⟨u, g1, g2, by rw [c 2 u 3 (by decide)]; exact g3⟩
theorem e_rm0 {S : HA} {f : Nat → Int32} {s0 : Nat} (h : ED S f) (hs : s0 < sz S 3) : ED (setT S 3 (trem (S.1 3) s0)) (rmM f (sz S 3) s0) := e_rm (S := S) (T := S.1 3) (by rw [setT_self]; exact h) hs
