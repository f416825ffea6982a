/-! THE END OF A WEEK: the same data, and what holds still holds -/
def skN (S : HA) (t r : Nat) : HA := Wc (Wc (Wc S 0 r 6 (ce S 0 r 6 + -(ce S 2 t 2))) 0 r 4 (ce S 0 r 4 + ce S 2 t 2)) 0 r 5 (ce S 0 r 5 + ce S 4 0 0)
theorem skip_eq {S : HA} {t r : Nat} (hb : EB S) (ht : t < sz S 2) (hr : r < sz S 0) (hw : ce S 2 t 1 = nI r) : skipS S (nI t) = setF (skN S t r) 8 (S.2 8 + 1) := by
  obtain ⟨hb0, hb1, hb2, hb3⟩ := hb
  unfold skipS
  simp only
  rw [cl1 (by omega), hw, cl2 (by omega)]
  rw [inc6 (S := setF S 8 (S.2 8 + 1)) (j := 0) (r := r) hr (by decide) (by rw [sz_F]; omega)]
  rw [inc4 (S := Wc (setF S 8 (S.2 8 + 1)) 0 r 6 (ce (setF S 8 (S.2 8 + 1)) 0 r 6 + -ce S 2 t 2)) (j := 0) (r := r) (by rw [sz_W]; exact hr) (by decide) (by rw [sz_W, sz_F]; omega)]
  rw [show ∀ T : HA, cl T 4 0 0 = ce T 4 0 0 from fun T => cl0 (r := 0) (by decide), inc5 (by rw [sz_W, sz_W]; exact hr) (by decide) (by rw [sz_W, sz_W, sz_F]; omega)]
  rw [ce_W_c (by decide), ce_W_c (by decide), ce_W_c (by decide), ce_W_ne (by decide), ce_W_ne (by decide)]
  rfl
def EI (S : HA) (x0 : Int32) (n0 t : Nat) (Y : HA) (g : Nat → Int32) (n : Int32) : Prop :=
  ED (setF Y 8 x0) g ∧ Y.2 8 = x0 + n ∧ n = cntL S t ∧ (∀ j r c, j ≠ 0 → ce Y j r c = ce S j r c) ∧ (∀ j, sz Y j = sz S j) ∧ (∀ k, k ≠ 8 → Y.2 k = S.2 k) ∧ VC Y ∧
  ∀ r, r < sz S 0 → ce Y 0 r 0 = ce S 0 r 0 ∧ ce Y 0 r 3 = ce S 0 r 3 ∧ (∃ kd, kd ≤ n0 ∧ ce Y 0 r 4 = nI (kd + osN S r t)) ∧ ∃ m, m + osN S r t = osN S r (sz S 2) ∧ ce Y 0 r 6 = nI m
theorem open_iff {S : HA} {u : Nat} (hs : sz S 2 < 2 ^ 31) (h : u < sz S 2) : openS S (nI u) = 0 ↔ ¬ ce S 2 u 3 = 0 := by
  rw [open_n hs h]
  by_cases q : ce S 2 u 3 = 0
  · rw [if_pos q]; exact ⟨fun z => absurd z (by decide), fun z => absurd q z⟩
  · rw [if_neg q]; exact ⟨fun _ => q, fun _ => rfl⟩
theorem open_same {S Y : HA} {u : Nat} (hs : sz Y 2 = sz S 2) (hc : ∀ r c, ce Y 2 r c = ce S 2 r c) (h31 : sz S 2 < 2 ^ 31) (h : u < sz S 2) : openS Y (nI u) = openS S (nI u) := by
  rw [open_n (by omega) (by omega), open_n h31 h, hc]
theorem ei_step {S : HA} {x0 : Int32} {n0 t r : Nat} {Y : HA} {g : Nat → Int32} {n : Int32} (hV : V S n0) (ht : t < sz S 2) (ho : ce S 2 t 3 = 0) (hr : r < sz S 0) (hw : ce S 2 t 1 = nI r) (h : EI S x0 n0 t Y g n) : EI S x0 n0 (t + 1) (skipS Y (nI t)) (skM g t r) (n + 1) := by
  obtain ⟨i1, i2, i3, i4, i5, i6, i7, i8⟩ := h
  have hb : EB Y := i1.1
  have hb2 := hV.1.2.1
  have h12 := hb2.2.2.1
  have c2 : ∀ r c, ce Y 2 r c = ce S 2 r c := fun r c => i4 2 r c (by decide)
  rw [skip_eq hb (by rw [i5]; exact ht) (by rw [i5]; exact hr) (by rw [c2]; exact hw)]
  obtain ⟨-, -, ⟨e, he, hce⟩, -, -⟩ := hV.2.2.2.1 t ht
  have E1 := e_6 i1 (r := r) (ce Y 0 r 6 + -(ce Y 2 t 2))
  have E2 := e_so4 E1 (r := r) (by rw [sz_W, sz_F, i5]; exact hr) (ce Y 0 r 4 + ce Y 2 t 2)
  have E3 := e_so5 E2 (r := r) (by rw [sz_W, sz_W, sz_F, i5]; exact hr) (ce Y 0 r 5 + ce Y 4 0 0)
  have o := i1.2.2.2.2.1 r (by rw [sz_F, i5]; exact hr)
  have ek := i1.2.2.2.2.2.2.1 t 2 (by rw [sz_F, i5]; exact ht) (by decide)
  have eg := i1.2.2.2.1 0 (by decide)
  have ef : skM g t r = so (so g r 2 (ce Y 0 r 4 + ce Y 2 t 2)) r 3 (ce Y 0 r 5 + ce Y 4 0 0) := by
    unfold skM
    simp only
    rw [o.2.2.1, ek, mo_so_ne (by decide) (by decide) (by omega), o.2.2.2.1, so_lo (by decide)]
    rw [show g 8 = ce (setF Y 8 x0) 4 0 0 from eg]
    rfl
  have s : ∀ j, sz (skN Y t r) j = sz Y j := fun j => by rw [skN, sz_W, sz_W, sz_W]
  have c1 : ∀ j x c, j ≠ 0 → ce (skN Y t r) j x c = ce Y j x c := fun j x c h => by rw [skN, ce_W_ne h, ce_W_ne h, ce_W_ne h]
  have tm : ∀ x, x < sz S 0 → tmN S x t = if x = r then e else 0 := fun x hx => by
    have := hb2.1
    unfold tmN
    rw [hw, ho, hce]
    by_cases q : x = r
    · rw [if_pos ⟨by rw [q], rfl⟩, if_pos q, nI_clamp (by omega)]
    · rw [if_neg (fun z => q ((nI_eq (by omega) (by omega)).mp z.1).symm), if_neg q]
  refine ⟨?_, ?_, ?_, fun j x c h => by rw [ce_F, c1 j x c h]; exact i4 j x c h, fun j => by rw [sz_F, s]; exact i5 j, fun k hk => by rw [F_ne hk]; exact i6 k hk, ?_, ?_⟩
  · rw [ef]
    exact E3
  · rw [F_at, i2]
    grind
  · rw [cntL, ← i3, open_n (by omega) ht, if_pos ho]
    rfl
  · exact vc_W (vc_W (vc_W i7 (by rw [i5]; exact hr)) (by rw [sz_W, i5]; exact hr)) (by rw [sz_W, sz_W, i5]; exact hr)
  · intro x hx
    obtain ⟨g0, g3, ⟨kd, g4, g4'⟩, ⟨m, g6, g6'⟩⟩ := i8 x hx
    have tx := tm x hx
    rw [ce_F, ce_F, ce_F, ce_F]
    by_cases q : x = r
    · subst q
      rw [if_pos rfl] at tx
      have hle := os_ge (S := S) (r := x) (sz S 2) ht
      have hmono : osN S x (t + 1) ≤ osN S x (sz S 2) := by
        have : ∀ d, osN S x (t + 1) ≤ osN S x (t + 1 + d) := by
          intro d
          induction d with
          | zero => exact Nat.le_refl _
          | succ d ih =>
            show osN S x (t + 1) ≤ osN S x (t + 1 + d) + tmN S x (t + 1 + d)
            omega
        have h2 := this (sz S 2 - (t + 1))
        rw [show t + 1 + (sz S 2 - (t + 1)) = sz S 2 by omega] at h2
        exact h2
      have ho1 : osN S x (t + 1) = osN S x t + e := by rw [osN, tx]
      refine ⟨by rw [skN, ce_W_c (by decide), ce_W_c (by decide), ce_W_c (by decide)]; exact g0, by rw [skN, ce_W_c (by decide), ce_W_c (by decide), ce_W_c (by decide)]; exact g3, ⟨kd, g4, ?_⟩, ⟨m - e, by omega, ?_⟩⟩
      · rw [skN, ce_W_c (by decide), ce_W_at, g4', c2, hce, nI_add, ho1, Nat.add_assoc]
      · rw [skN, ce_W_c (by decide), ce_W_c (by decide), ce_W_at, g6', c2, hce, nI_sub (by omega)]
    · rw [if_neg q] at tx
      have cr : ∀ c, ce (skN Y t r) 0 x c = ce Y 0 x c := fun c => by rw [skN, ce_W_r q, ce_W_r q, ce_W_r q]
      have ho1 : osN S x (t + 1) = osN S x t := by rw [osN, tx, Nat.add_zero]
      rw [cr, cr, cr, cr, ho1]
      exact ⟨g0, g3, ⟨kd, g4, g4'⟩, ⟨m, g6, g6'⟩⟩
theorem ei_no {S : HA} {x0 : Int32} {n0 t : Nat} {Y : HA} {g : Nat → Int32} {n : Int32} (hs : sz S 2 < 2 ^ 31) (ht : t < sz S 2) (ho : ¬ ce S 2 t 3 = 0) (h : EI S x0 n0 t Y g n) : EI S x0 n0 (t + 1) Y g n := by
  obtain ⟨i1, i2, i3, i4, i5, i6, i7, i8⟩ := h
  have e : ∀ x, osN S x (t + 1) = osN S x t := fun x => by
    rw [osN, tmN, if_neg (fun z => ho z.2), Nat.add_zero]
  refine ⟨i1, i2, ?_, i4, i5, i6, i7, fun x hx => by rw [e]; exact i8 x hx⟩
  rw [cntL, ← i3, open_n hs ht, if_neg ho]
  show n = n + 0
  exact (Int32.add_zero n).symm
theorem ei_loop {S : HA} {x0 : Int32} {n0 : Nat} {who : Nat → Nat} (hV : V S n0) (hwho : ∀ t, t < sz S 2 → ce S 2 t 1 = nI (who t) ∧ who t < sz S 0) : ∀ (k t : Nat) (Y : HA) (g : Nat → Int32) (n : Int32), t + k = sz S 2 → EI S x0 n0 t Y g n → EI S x0 n0 (sz S 2) (skipF k t Y) (skF who k t g n).1 (skF who k t g n).2
  | 0, t, Y, g, n, hk, h => by
    obtain rfl : t = sz S 2 := by omega
    exact h
  | k + 1, t, Y, g, n, hk, h => by
    have hb2 := hV.1.2.1.2.2.1
    have ht : t < sz S 2 := by omega
    have ek : mk g t 3 = ce S 2 t 3 := by
      have := h.1.2.2.2.2.2.2.1 t 3 (by rw [sz_F, h.2.2.2.2.1]; exact ht) (by decide)
      rw [this, ce_F, h.2.2.2.1 2 t 3 (by decide)]
    have eo : openS Y (nI t) = openS S (nI t) := open_same (h.2.2.2.2.1 2) (fun r c => h.2.2.2.1 2 r c (by decide)) (by omega) ht
    rw [skipF, skF, ek, eo]
    by_cases ho : ce S 2 t 3 = 0
    · rw [if_neg (fun z => ((open_iff (by omega) ht).mp z) ho), if_neg (not_not_intro ho)]
      exact ei_loop hV hwho k (t + 1) _ _ _ (by omega) (ei_step hV ht ho (hwho t ht).2 (hwho t ht).1 h)
    · rw [if_pos ((open_iff (by omega) ht).mpr ho), if_pos ho]
      exact ei_loop hV hwho k (t + 1) _ _ _ (by omega) (ei_no (by omega) ht ho h)
-- decaying, growing
theorem dc_f {d : Int32} : ∀ (k r : Nat) (S : HA), r + k = sz S 0 → sz S 0 ≤ 8 → VC S → (∀ j, sz (decayF d k r S) j = sz S j) ∧ (∀ j x c, ¬ (j = 0 ∧ c = 5) → ce (decayF d k r S) j x c = ce S j x c) ∧ (decayF d k r S).2 = S.2 ∧ VC (decayF d k r S)
  | 0, r, S, _, _, h => ⟨fun _ => rfl, fun _ _ _ _ => rfl, rfl, h⟩
  | k + 1, r, S, hk, h8, h => by
    rw [decayF, wc5 (by omega) (by decide) (by omega)]
    obtain ⟨i1, i2, i3, i4⟩ := dc_f (d := d) k (r + 1) (Wc S 0 r 5 (cl S 0 (nI r) 5 * d / 100)) (by rw [sz_W]; omega) (by rw [sz_W]; exact h8) (vc_W h (by omega))
    refine ⟨fun j => by rw [i1, sz_W], fun j x c hn => ?_, i3, i4⟩
    rw [i2 j x c hn]
    by_cases q : j = 0
    · subst q; exact ce_W_c (fun z => hn ⟨rfl, z⟩)
    · exact ce_W_ne q
theorem e_dc {dd : Int32} : ∀ (k r : Nat) (S : HA) (f : Nat → Int32), r + k = sz S 0 → ED S f → f 9 = dd → ED (decayF (100 - dd) k r S) (dcF k r f)
  | 0, _, _, _, _, h, _ => h
  | k + 1, r, S, f, hk, h, h9 => by
    have hb := h.1.1
    have o := (h.2.2.2.2.1 r (by omega)).2.2.2.1
    rw [decayF, dcF, wc5 (by omega) (by decide) (by omega), cl5 (by omega), o, h9]
    exact e_dc k (r + 1) _ _ (by rw [sz_W]; omega) (e_so5 h (by omega) _) (by rw [so_lo (by decide)]; exact h9)
theorem gw_f : ∀ (k r : Nat) (S : HA), r + k = sz S 1 → sz S 1 ≤ 6 → VC S → (∀ j, sz (growF k r S) j = sz S j) ∧ (∀ j x c, ¬ (j = 1 ∧ c = 3) → ce (growF k r S) j x c = ce S j x c) ∧ (growF k r S).2 = S.2 ∧ VC (growF k r S)
  | 0, r, S, _, _, h => ⟨fun _ => rfl, fun _ _ _ _ => rfl, rfl, h⟩
  | k + 1, r, S, hk, h8, h => by
    rw [growF, wc3 (by omega) (by decide) (by omega)]
    obtain ⟨i1, i2, i3, i4⟩ := gw_f k (r + 1) (Wc S 1 r 3 (if cl S 1 (nI r) 3 + cl S 1 (nI r) 2 < 1000 then cl S 1 (nI r) 3 + cl S 1 (nI r) 2 else 1000)) (by rw [sz_W]; omega) (by rw [sz_W]; exact h8) (vc_W h (by omega))
    refine ⟨fun j => by rw [i1, sz_W], fun j x c hn => ?_, i3, i4⟩
    rw [i2 j x c hn]
    by_cases q : j = 1
    · subst q; exact ce_W_c (fun z => hn ⟨rfl, z⟩)
    · exact ce_W_ne q
theorem min1000 (x : Int32) : (if x ≤ 1000 then x else 1000) = if x < 1000 then x else 1000 := by
  by_cases h : x < 1000
  · rw [if_pos h, if_pos (Int32.le_of_lt h)]
  · rw [if_neg h]
    by_cases q : x ≤ 1000
    · rw [if_pos q]
      exact Int32.le_antisymm q (Int32.not_lt.mp h)
    · rw [if_neg q]
theorem e_gw : ∀ (k r : Nat) (S : HA) (f : Nat → Int32), r + k = sz S 1 → ED S f → ED (growF k r S) (gwF k r f)
  | 0, _, _, _, _, h => h
  | k + 1, r, S, f, hk, h => by
    have hb := h.1.2.1
    have h3 := h.2.2.2.2.2.1 r 3 (by omega) (by decide)
    have h2 := h.2.2.2.2.2.1 r 2 (by omega) (by decide)
    rw [growF, gwF, wc3 (by omega) (by decide) (by omega), cl3 (by omega), cl2 (by omega), h3, h2, min1000]
    exact e_gw k (r + 1) _ _ (by rw [sz_W]; omega) (e_sA h (by omega) (by decide) _)
theorem setF_self (S : HA) (k : Nat) (x : Int32) : setF (setF S k x) k (S.2 k) = S := by
  refine Prod.ext rfl ?_
  funext i
  show (if i = k then S.2 k else if i = k then x else S.2 i) = S.2 i
  by_cases h : i = k
  · rw [if_pos h, h]
  · rw [if_neg h, if_neg h]
theorem end_ok {S : HA} {f : Nat → Int32} {n w : Nat} {who : Nat → Nat} (hE : ED S f) (hV : V S n) (hw : S.2 5 = nI w) (hw9 : w < 999) (hwho : ∀ t, t < sz S 2 → ce S 2 t 1 = nI (who t) ∧ who t < sz S 0) :
    ED (endS S) (endM f who (sz S 0) (sz S 1) (sz S 2)) ∧ V (endS S) (n + 720) ∧ (skF who (sz S 2) 0 f 0).2 = cntL S (sz S 2) ∧ (endS S).2 7 = S.2 7 ∧ (endS S).2 5 = nI (w + 1) ∧ (endS S).2 6 = 0 := by
  obtain ⟨⟨a1, ⟨b0, b1, b2, b3⟩, a3, a4⟩, a5, a6, a7, a8, a9, a10⟩ := id hV
  have I0 : EI S (S.2 8) n 0 S f 0 := by
    refine ⟨?_, (Int32.add_zero _).symm, rfl, fun _ _ _ _ => rfl, fun _ => rfl, fun _ _ => rfl, a10, fun r hr => ?_⟩
    · have e : setF S 8 (S.2 8) = S := by
        refine Prod.ext rfl ?_
        funext i
        show (if i = 8 then S.2 8 else S.2 i) = S.2 i
        by_cases h : i = 8
        · rw [if_pos h, h]
        · rw [if_neg h]
      rw [e]; exact hE
    · obtain ⟨-, -, ⟨kd, h4, h4'⟩, h6⟩ := a5 r hr
      exact ⟨rfl, rfl, ⟨kd, h4, h4'⟩, ⟨_, rfl, h6⟩⟩
  have I := ei_loop hV hwho (sz S 2) 0 S f 0 (by omega) I0
  unfold endS endM
  simp only
  generalize hQ : skF who (sz S 2) 0 f 0 = Q at I ⊢
  generalize hY : skipF (sz S 2) 0 S = Y at I ⊢
  obtain ⟨i1, i2, i3, i4, i5, i6, i7, i8⟩ := I
  -- the count of skipped ones
  have E1 : ED Y (upd Q.1 6 (Q.1 6 + Q.2)) := by
    have h6 : Q.1 6 = S.2 8 := i1.2.1.2.2.2.trans F_at
    rw [h6, ← i2]
    have := e_f8 i1 (Y.2 8)
    rw [setF_self] at this
    exact this
  have E2 := e_cs (e_ct E1)
  unfold endR
  simp only
  generalize hZ : setT (setT Y 2 (0, fun _ _ => 0)) 3 (0, fun _ _ => 0) = Z at E2 ⊢
  have zs : ∀ j, sz Z j = if j = 2 ∨ j = 3 then 0 else sz S j := fun j => by
    rw [← hZ]
    by_cases q3 : j = 3
    · subst q3; rw [sz_T, if_pos (Or.inr rfl)]
    · rw [sz_T_ne q3]
      by_cases q2 : j = 2
      · subst q2; rw [sz_T, if_pos (Or.inl rfl)]
      · rw [sz_T_ne q2, if_neg (by omega), i5]
  have zc : ∀ j r c, j ≠ 2 → j ≠ 3 → ce Z j r c = ce Y j r c := fun j r c h2 h3 => by rw [← hZ, ce_T_ne h3, ce_T_ne h2]
  have zV : VC Z := by
    intro j r c hj hr
    rw [← hZ]
    by_cases q3 : j = 3
    · subst q3; rw [ce_T]
    · rw [ce_T_ne q3]
      by_cases q2 : j = 2
      · subst q2; rw [ce_T]
      · rw [ce_T_ne q2]
        rw [zs, if_neg (by omega)] at hr
        exact i7 j r c hj (by rw [i5]; exact hr)
  have z2 : Z.2 = Y.2 := by rw [← hZ]; rfl
  have z0 : sz Z 0 = sz S 0 := (zs 0).trans (if_neg (by omega))
  have z1 : sz Z 1 = sz S 1 := (zs 1).trans (if_neg (by omega))
  have e9 : (upd (upd (upd Q.1 6 (Q.1 6 + Q.2)) 3 0) 7 0) 9 = cl Z 4 0 1 := by
    rw [show cl Z 4 0 1 = ce Z 4 0 1 from cl1 (r := 0) (by decide)]
    exact E2.2.2.2.1 1 (by decide)
  have E3 := e_dc (sz Z 0) 0 Z _ (by omega) E2 e9
  obtain ⟨d1, d2, d3, d4⟩ := dc_f (d := 100 - cl Z 4 0 1) (sz Z 0) 0 Z (by omega) (by rw [z0]; exact b0) zV
  rw [z0] at E3 d1 d2 d3 d4 ⊢
  generalize hD : decayF (100 - cl Z 4 0 1) (sz S 0) 0 Z = D at E3 d1 d2 d3 d4 ⊢
  have E4 := e_gw (sz D 1) 0 D _ (by omega) E3
  obtain ⟨g1, g2, g3, g4⟩ := gw_f (sz D 1) 0 D (by omega) (by rw [d1, z1]; exact b1) d4
  rw [d1, z1] at E4 g1 g2 g3 g4 ⊢
  generalize hG : growF (sz S 1) 0 D = Gg at E4 g1 g2 g3 g4 ⊢
  have f5 : Gg.2 5 = nI w := by rw [g3, d3, z2, i6 5 (by decide)]; exact hw
  have E5 := e_f6 (e_f5 E4 (Gg.2 5 + 1)) 0
  have m0 : (gwF (sz S 1) 0 (dcF (sz S 0) 0 (upd (upd (upd Q.1 6 (Q.1 6 + Q.2)) 3 0) 7 0))) 0 = Gg.2 5 := E4.2.1.1
  have gs : ∀ j, sz Gg j = if j = 2 ∨ j = 3 then 0 else sz S j := fun j => by rw [g1, d1, zs]
  have gc : ∀ j r c, ¬ (j = 1 ∧ c = 3) → ¬ (j = 0 ∧ c = 5) → j ≠ 2 → j ≠ 3 → ce Gg j r c = ce Y j r c := fun j r c h1 h2 h3 h4 => by rw [g2 j r c h1, d2 j r c h2, zc j r c h3 h4]
  refine ⟨by rw [m0]; exact E5, ?_, i3, ?_, ?_, F_at⟩
  · refine ⟨⟨⟨Or.inl F_at, fun _ => ?_⟩, ⟨?_, ?_, ?_, ?_⟩, ?_, ⟨w + 1, by omega, ?_⟩⟩, ?_, ⟨fun a ha => ?_, ?_⟩, fun t ht => ?_, ⟨fun t u _ hu => ?_, fun t ht => ?_⟩, fun t c ht _ => ?_, ?_⟩
    · show sz Gg 2 = 0; rw [gs, if_pos (Or.inl rfl)]
    · show sz Gg 0 ≤ 8; rw [gs, if_neg (by omega)]; exact b0
    · show sz Gg 1 ≤ 6; rw [gs, if_neg (by omega)]; exact b1
    · show sz Gg 2 ≤ 12; rw [gs, if_pos (Or.inl rfl)]; exact Nat.zero_le _
    · show sz Gg 3 ≤ 6; rw [gs, if_pos (Or.inr rfl)]; exact Nat.zero_le _
    · show sz Gg 4 = 1; rw [gs, if_neg (by omega)]; exact a3
    · rw [F_ne (by decide), F_at, f5, nI_1]
    · intro r hr
      have hr : r < sz S 0 := by have : r < sz Gg 0 := hr; rw [gs, if_neg (by omega)] at this; exact this
      obtain ⟨y0, y3, ⟨kd, y4, y4'⟩, ⟨m, y6, y6'⟩⟩ := i8 r hr
      obtain ⟨h1, ⟨k, h2, h3⟩, -, -⟩ := a5 r hr
      have hz2 : sz (setF (setF Gg 5 (Gg.2 5 + 1)) 6 0) 2 = 0 := by show sz Gg 2 = 0; rw [gs, if_pos (Or.inl rfl)]
      have hos := os_le a7 (r := r) (sz S 2) (Nat.le_refl _)
      rw [hz2, ce_F, ce_F, ce_F, ce_F, ce_F, ce_F, ce_F, ce_F, gc 0 r 0 (by omega) (by omega) (by omega) (by omega), gc 0 r 3 (by omega) (by omega) (by omega) (by omega), gc 0 r 4 (by omega) (by omega) (by omega) (by omega), gc 0 r 6 (by omega) (by omega) (by omega) (by omega), y0, y3]
      refine ⟨h1, ⟨k, ?_, h3⟩, ⟨_, ?_, y4'⟩, ?_⟩
      · show k + 0 ≤ n + 720; omega
      · omega
      · rw [y6', show m = 0 by omega]; rfl
    · have ha : a < sz S 1 := by have : a < sz Gg 1 := ha; rw [gs, if_neg (by omega)] at this; exact this
      rw [ce_F, ce_F, ce_F, ce_F, gc 1 a 0 (by omega) (by omega) (by omega) (by omega), gc 1 a 1 (by omega) (by omega) (by omega) (by omega), i4 1 a 0 (by decide), i4 1 a 1 (by decide)]
      exact a6.1 a ha
    · rw [ce_F, ce_F, gc 4 0 2 (by omega) (by omega) (by omega) (by omega), i4 4 0 2 (by decide)]
      exact a6.2
    · have : t < sz Gg 2 := ht
      rw [gs, if_pos (Or.inl rfl)] at this
      exact absurd this (Nat.not_lt_zero _)
    · have : u < sz Gg 2 := hu
      rw [gs, if_pos (Or.inl rfl)] at this
      exact absurd this (Nat.not_lt_zero _)
    · have : t < sz Gg 2 := ht
      rw [gs, if_pos (Or.inl rfl)] at this
      exact absurd this (Nat.not_lt_zero _)
    · have : t < sz Gg 3 := ht
      rw [gs, if_pos (Or.inr rfl)] at this
      exact absurd this (Nat.not_lt_zero _)
    · exact g4
  · rw [F_ne (by decide), F_ne (by decide), g3, d3, z2, i6 7 (by decide)]
  · rw [F_ne (by decide), F_at, f5, nI_1]
