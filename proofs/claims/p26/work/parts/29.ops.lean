/-! RESIDENTS, AREAS, SETTINGS, EXTRA WORK, SWAPS: the same data, and what holds still holds -/
theorem sz_app {S : HA} {j j' : Nat} : sz (app S j) j' = if j' = j then sz S j + 1 else sz S j' := by
  rw [app]
  by_cases h : j' = j
  · rw [if_pos h, h, sz_T]; rfl
  · rw [if_neg h, sz_T_ne h]
theorem ce_app {S : HA} {j j' r c : Nat} : ce (app S j) j' r c = ce S j' r c := by
  rw [app]
  by_cases h : j' = j
  · rw [h, ce_T]; rfl
  · rw [ce_T_ne h]
theorem vc_app {S : HA} {j : Nat} (h : VC S) : VC (app S j) := by
  intro j' r c hj hr
  rw [ce_app]
  rw [sz_app] at hr
  by_cases q : j' = j
  · rw [if_pos q] at hr
    exact h j' r c hj (by rw [q]; omega)
  · rw [if_neg q] at hr
    exact h j' r c hj hr
theorem os_zero {S : HA} {r : Nat} (hK : VK S) (hb : sz S 0 ≤ 8) (hr : sz S 0 ≤ r) (h31 : r < 2 ^ 31) : ∀ n, n ≤ sz S 2 → osN S r n = 0
  | 0, _ => rfl
  | n + 1, h => by
    obtain ⟨-, ⟨r', h1, h2⟩, -⟩ := hK n (by omega)
    rw [osN, os_zero hK hb hr h31 n (by omega), tmN, if_neg]
    rintro ⟨q, -⟩
    rw [h2] at q
    have := (nI_eq (by omega) h31).mp q
    omega
def addRN (S : HA) (w : Int32) : HA := Wc (Wc (Wc (app S 0) 0 (sz S 0) 0 w) 0 (sz S 0) 1 0) 0 (sz S 0) 2 (-1)
theorem addR_eq {S : HA} {w : Int32} (h : sz S 0 < 8) : addResS S w = addRN S w := by
  have e : sz (app S 0) 0 = sz S 0 + 1 := by rw [sz_app, if_pos rfl]
  unfold addResS
  simp only
  rw [wc0 (by omega) (by decide) (by omega), wc1 (by rw [sz_W]; omega) (by decide) (by rw [sz_W]; omega), wc2 (by rw [sz_W, sz_W]; omega) (by decide) (by rw [sz_W, sz_W]; omega)]
  rfl
theorem away_new : ∀ w, w ≤ 999 → isInS (nI w) (-6) (-6) = isInS (nI w) 0 (-1) := fun w hw => (by decide +kernel : ∀ w, w < 1000 → isInS (nI w) (-6) (-6) = isInS (nI w) 0 (-1)) w (by omega)
def rowM (f : Nat → Int32) (k : Nat) (w : Int32) : Nat → Int32 := so (so (so (so (so (so (upd f 1 (nI (k + 1))) k 0 w) k 1 0) k 2 0) k 3 0) k 4 (-6)) k 5 (-6)
theorem e_addR {S : HA} {f : Nat → Int32} (h : ED S f) (hC : VC S) (hlt : sz S 0 < 8) (w : Int32) : ED (addResS S w) (rowM f (sz S 0) w) := by
  rw [addR_eq hlt]
  obtain ⟨⟨hb0, hb1, hb2, hb3⟩, ⟨hs0, hs4, hs5, hs6⟩, ⟨hc1, hc2, hc3, hc7⟩, hg, ho, ha, hk, hw⟩ := h
  have s0 : sz (addRN S w) 0 = sz S 0 + 1 := by rw [addRN, sz_W, sz_W, sz_W, sz_app, if_pos rfl]
  have s : ∀ j, j ≠ 0 → sz (addRN S w) j = sz S j := fun j hj => by rw [addRN, sz_W, sz_W, sz_W, sz_app, if_neg hj]
  have c1 : ∀ j r c, j ≠ 0 → ce (addRN S w) j r c = ce S j r c := fun j r c hj => by rw [addRN, ce_W_ne hj, ce_W_ne hj, ce_W_ne hj, ce_app]
  have c0 : ∀ r c, r ≠ sz S 0 → ce (addRN S w) 0 r c = ce S 0 r c := fun r c hr => by rw [addRN, ce_W_r hr, ce_W_r hr, ce_W_r hr, ce_app]
  have lo : ∀ j, j < 12 → j ≠ 1 → rowM f (sz S 0) w j = f j := fun j h1 h2 => by
    simp only [rowM, so_lo h1, up_ne h2]
  have hi : ∀ j, 60 ≤ j → rowM f (sz S 0) w j = f j := fun j h1 => by
    rw [rowM, so_hi (by omega), so_hi (by omega), so_hi (by omega), so_hi (by omega), so_hi (by omega), so_hi (by omega), up_ne (by omega)]
  refine ⟨⟨by rw [s0]; omega, by rw [s 1 (by decide)]; exact hb1, by rw [s 2 (by decide)]; exact hb2, by rw [s 3 (by decide)]; exact hb3⟩, ⟨?_, ?_, ?_, ?_⟩, ⟨?_, ?_, ?_, ?_⟩, ?_, ?_, ?_, ?_, ?_⟩
  · rw [lo 0 (by decide) (by decide)]; exact hs0
  · rw [lo 4 (by decide) (by decide)]; exact hs4
  · rw [lo 5 (by decide) (by decide)]; exact hs5
  · rw [lo 6 (by decide) (by decide)]; exact hs6
  · rw [s0]; simp only [rowM, so_lo (show 1 < 12 by decide), up_at]
  · rw [lo 2 (by decide) (by decide), s 1 (by decide)]; exact hc2
  · rw [lo 3 (by decide) (by decide), s 2 (by decide)]; exact hc3
  · rw [lo 7 (by decide) (by decide), s 3 (by decide)]; exact hc7
  · intro j hj
    rw [lo _ (by omega) (by omega), c1 4 0 j (by decide)]; exact hg j hj
  · intro r hr
    rw [s0] at hr
    by_cases q : r = sz S 0
    · subst q
      have z : ∀ c, ce S 0 (sz S 0) c = 0 := fun c => hC 0 _ c (by decide) (Nat.le_refl _)
      have e : ∀ c, ce (addRN S w) 0 (sz S 0) c = if c = 2 then -1 else if c = 1 then 0 else if c = 0 then w else 0 := fun c => by
        rw [addRN, ce_W, ce_W, ce_W, ce_app, z]
        simp only [true_and]
      rw [e 0, e 3, e 4, e 5, e 1, e 2]
      unfold rowM
      simp (disch := omega) only [mo_so_ne, mo_so_at]
      exact ⟨rfl, rfl, rfl, rfl, fun w hw => away_new w hw⟩
    · have := ho r (by omega)
      simp only [c0 r _ q]
      unfold rowM
      simp (disch := omega) only [mo_so_ne, mo_up]
      exact this
  · intro a c h1 h2
    rw [s 1 (by decide)] at h1
    rw [c1 1 a c (by decide), ← ha a c h1 h2]
    exact hi _ (by omega)
  · intro t c h1 h2
    rw [s 2 (by decide)] at h1
    rw [c1 2 t c (by decide), ← hk t c h1 h2]
    exact hi _ (by omega)
  · intro t c h1 h2
    rw [s 3 (by decide)] at h1
    rw [c1 3 t c (by decide), ← hw t c h1 h2]
    exact hi _ (by omega)
theorem v_addR {S : HA} {n w : Nat} (hV : V S n) (hlt : sz S 0 < 8) (h1 : 1 ≤ w) (h2 : w ≤ 10) : V (addResS S (nI w)) n := by
  rw [addR_eq hlt]
  obtain ⟨⟨a1, ⟨b0, b1, b2, b3⟩, a3, a4⟩, a5, a6, a7, a8, a9, a10⟩ := hV
  have s0 : sz (addRN S (nI w)) 0 = sz S 0 + 1 := by rw [addRN, sz_W, sz_W, sz_W, sz_app, if_pos rfl]
  have s : ∀ j, j ≠ 0 → sz (addRN S (nI w)) j = sz S j := fun j hj => by rw [addRN, sz_W, sz_W, sz_W, sz_app, if_neg hj]
  have c1 : ∀ j r c, j ≠ 0 → ce (addRN S (nI w)) j r c = ce S j r c := fun j r c hj => by rw [addRN, ce_W_ne hj, ce_W_ne hj, ce_W_ne hj, ce_app]
  have c0 : ∀ r c, r ≠ sz S 0 → ce (addRN S (nI w)) 0 r c = ce S 0 r c := fun r c hr => by rw [addRN, ce_W_r hr, ce_W_r hr, ce_W_r hr, ce_app]
  have c2 := fun t c => c1 2 t c (by decide)
  refine ⟨⟨inv_same a1 rfl (s 2 (by decide)), ⟨by rw [s0]; omega, by rw [s 1 (by decide)]; exact b1, by rw [s 2 (by decide)]; exact b2, by rw [s 3 (by decide)]; exact b3⟩, by rw [s 4 (by decide)]; exact a3, a4⟩, ?_, ⟨fun a ha => ?_, by rw [c1 4 0 2 (by decide)]; exact a6.2⟩, fun t ht => ?_, ⟨fun t u => ?_, fun t ht => ?_⟩, fun t c ht hc => ?_, ?_⟩
  · intro r hr
    rw [s0] at hr
    rw [s 2 (by decide), os_of c2]
    by_cases q : r = sz S 0
    · subst q
      have z : ∀ c, ce S 0 (sz S 0) c = 0 := fun c => a10 0 _ c (by decide) (Nat.le_refl _)
      have e : ∀ c, ce (addRN S (nI w)) 0 (sz S 0) c = if c = 2 then -1 else if c = 1 then 0 else if c = 0 then nI w else 0 := fun c => by
        rw [addRN, ce_W, ce_W, ce_W, ce_app, z]
        simp only [true_and]
      rw [e 0, e 3, e 4, e 6, os_zero a7 b0 (Nat.le_refl _) (by omega) _ (Nat.le_refl _)]
      exact ⟨⟨w, h1, h2, rfl⟩, ⟨0, Nat.zero_le _, rfl⟩, ⟨0, Nat.zero_le _, rfl⟩, rfl⟩
    · rw [c0 r 0 q, c0 r 3 q, c0 r 4 q, c0 r 6 q]
      exact a5 r (by omega)
  · rw [s 1 (by decide)] at ha
    rw [c1 1 a 0 (by decide), c1 1 a 1 (by decide)]
    exact a6.1 a ha
  · rw [s 2 (by decide)] at ht
    obtain ⟨k0, ⟨r, k1, k1'⟩, k2⟩ := a7 t ht
    rw [c2, c2, c2, c2, c2, s0, s 1 (by decide)]
    exact ⟨k0, ⟨r, by omega, k1'⟩, k2⟩
  · rw [c2, c2, c2, c2, s 2 (by decide)]
    exact a8.1 t u
  · rw [s 2 (by decide)] at ht ⊢
    rw [c2, c2, c2]
    intro h
    rcases a8.2 t ht h with q | ⟨u, q1, q2⟩
    · exact Or.inl q
    · exact Or.inr ⟨u, q1, by rw [c2]; exact q2⟩
  · rw [s 3 (by decide)] at ht
    obtain ⟨u, g1, g2, g3⟩ := a9 t c ht hc
    exact ⟨u, by rw [s 2 (by decide)]; exact g1, by rw [c1 3 t c (by decide)]; exact g2, by rw [c2]; exact g3⟩
  · have e : sz (app S 0) 0 = sz S 0 + 1 := by rw [sz_app, if_pos rfl]
    exact vc_W (vc_W (vc_W (vc_app a10) (by omega)) (by rw [sz_W]; omega)) (by rw [sz_W, sz_W]; omega)
-- a change of one table where what holds needs no look at it
theorem v_of {S S' : HA} {n : Nat} (h : V S n) (h0 : ∀ r, r < sz S 0 → (∃ w, 1 ≤ w ∧ w ≤ 10 ∧ ce S' 0 r 0 = nI w) ∧ ∀ c, (c = 3 ∨ c = 4 ∨ c = 6) → ce S' 0 r c = ce S 0 r c) (h1 : ∀ a, a < sz S 1 → ce S' 1 a 0 = ce S 1 a 0 ∧ ce S' 1 a 1 = ce S 1 a 1) (h2 : ∀ t c, ce S' 2 t c = ce S 2 t c) (h3 : ∀ t c, ce S' 3 t c = ce S 3 t c) (h4 : ∃ d, 2 ≤ d ∧ d ≤ 6 ∧ ce S' 4 0 2 = nI d)
    (s : ∀ j, sz S' j = sz S j) (f : S'.2 = S.2) (hc : VC S') : V S' n := by
  obtain ⟨⟨a1, ⟨b0, b1, b2, b3⟩, a3, a4⟩, a5, a6, a7, a8, a9, a10⟩ := h
  refine ⟨⟨inv_same a1 (by rw [f]) (s 2), ⟨by rw [s]; exact b0, by rw [s]; exact b1, by rw [s]; exact b2, by rw [s]; exact b3⟩, by rw [s]; exact a3, by rw [f]; exact a4⟩, ?_, ⟨fun a ha => ?_, h4⟩, fun t ht => ?_, ⟨fun t u => ?_, fun t ht => ?_⟩, fun t c ht hc => ?_, hc⟩
  · intro r hr
    rw [s] at hr
    rw [s, os_of h2, (h0 r hr).2 3 (Or.inl rfl), (h0 r hr).2 4 (Or.inr (Or.inl rfl)), (h0 r hr).2 6 (Or.inr (Or.inr rfl))]
    exact ⟨(h0 r hr).1, (a5 r hr).2⟩
  · rw [s] at ha
    rw [(h1 a ha).1, (h1 a ha).2]
    exact a6.1 a ha
  · rw [s] at ht
    rw [h2, h2, h2, h2, h2, s, s]
    exact a7 t ht
  · rw [h2, h2, h2, h2, s]
    exact a8.1 t u
  · rw [s] at ht ⊢
    rw [h2, h2, h2]
    intro h
    rcases a8.2 t ht h with q | ⟨u, q1, q2⟩
    · exact Or.inl q
    · exact Or.inr ⟨u, q1, by rw [h2]; exact q2⟩
  · rw [s] at ht
    rw [h3, s]
    obtain ⟨u, g1, g2, g3⟩ := a9 t c ht hc
    exact ⟨u, g1, g2, by rw [h2]; exact g3⟩
theorem v_weigh {S : HA} {n r w : Nat} (hV : V S n) (hr : r < sz S 0) (h1 : 1 ≤ w) (h2 : w ≤ 10) : V (Wc S 0 r 0 (nI w)) n := by
  refine v_of hV (fun x hx => ⟨?_, fun c hc => ce_W_c (by omega)⟩) (fun a _ => ⟨ce_W_ne (by decide), ce_W_ne (by decide)⟩) (fun _ _ => ce_W_ne (by decide)) (fun _ _ => ce_W_ne (by decide)) (by rw [ce_W_ne (by decide)]; exact hV.2.2.1.2) (fun _ => sz_W) rfl (vc_W hV.2.2.2.2.2.2 hr)
  rw [ce_W]
  split
  · exact ⟨w, h1, h2, rfl⟩
  · exact (hV.2.1 x hx).1
def awN (S : HA) (r : Nat) (x y : Int32) : HA := Wc (Wc S 0 r 1 x) 0 r 2 y
theorem v_away {S : HA} {n r : Nat} {x y : Int32} (hV : V S n) (hr : r < sz S 0) : V (awN S r x y) n := by
  refine v_of hV (fun z hz => ⟨by rw [awN, ce_W_c (by decide), ce_W_c (by decide)]; exact (hV.2.1 z hz).1, fun c hc => by rw [awN, ce_W_c (by omega), ce_W_c (by omega)]⟩) (fun a _ => ⟨by rw [awN, ce_W_ne (by decide), ce_W_ne (by decide)], by rw [awN, ce_W_ne (by decide), ce_W_ne (by decide)]⟩) (fun _ _ => by rw [awN, ce_W_ne (by decide), ce_W_ne (by decide)]) (fun _ _ => by rw [awN, ce_W_ne (by decide), ce_W_ne (by decide)]) (by rw [awN, ce_W_ne (by decide), ce_W_ne (by decide)]; exact hV.2.2.1.2) (fun _ => by rw [awN, sz_W, sz_W]) rfl (vc_W (vc_W hV.2.2.2.2.2.2 hr) (by rw [sz_W]; exact hr))
theorem e_away {S : HA} {f : Nat → Int32} {r : Nat} (h : ED S f) (hr : r < sz S 0) (x y : Int32) : ED (awN S r x y) (so (so f r 4 x) r 5 y) := by
  obtain ⟨⟨hb0, hb1, hb2, hb3⟩, ⟨hs0, hs4, hs5, hs6⟩, ⟨hc1, hc2, hc3, hc7⟩, hg, ho, ha, hk, hw⟩ := h
  have s : ∀ j, sz (awN S r x y) j = sz S j := fun j => by rw [awN, sz_W, sz_W]
  have c1 : ∀ j r' c, j ≠ 0 → ce (awN S r x y) j r' c = ce S j r' c := fun j r' c hj => by rw [awN, ce_W_ne hj, ce_W_ne hj]
  have c0 : ∀ r' c, c ≠ 1 → c ≠ 2 → ce (awN S r x y) 0 r' c = ce S 0 r' c := fun r' c h1 h2 => by rw [awN, ce_W_c h2, ce_W_c h1]
  have lo : ∀ j, j < 12 → so (so f r 4 x) r 5 y j = f j := fun j h1 => by rw [so_lo h1, so_lo h1]
  refine ⟨⟨by rw [s]; exact hb0, by rw [s]; exact hb1, by rw [s]; exact hb2, by rw [s]; exact hb3⟩, ⟨by rw [lo _ (by decide)]; exact hs0, by rw [lo _ (by decide)]; exact hs4, by rw [lo _ (by decide)]; exact hs5, by rw [lo _ (by decide)]; exact hs6⟩, ⟨by rw [lo _ (by decide), s]; exact hc1, by rw [lo _ (by decide), s]; exact hc2, by rw [lo _ (by decide), s]; exact hc3, by rw [lo _ (by decide), s]; exact hc7⟩, ?_, ?_, ?_, ?_, ?_⟩
  · intro j hj
    rw [lo _ (by omega), c1 4 0 j (by decide)]; exact hg j hj
  · intro r1 hr1
    rw [s] at hr1
    obtain ⟨o0, o1, o2, o3, o4⟩ := ho r1 hr1
    rw [c0 r1 0 (by decide) (by decide), c0 r1 3 (by decide) (by decide), c0 r1 4 (by decide) (by decide), c0 r1 5 (by decide) (by decide)]
    refine ⟨?_, ?_, ?_, ?_, fun w hw => ?_⟩
    · simp (disch := omega) only [mo_so_ne]; exact o0
    · simp (disch := omega) only [mo_so_ne]; exact o1
    · simp (disch := omega) only [mo_so_ne]; exact o2
    · simp (disch := omega) only [mo_so_ne]; exact o3
    · by_cases q : r1 = r
      · subst q
        rw [mo_so_ne (by decide) (by decide) (by omega), mo_so_at, mo_so_at, awN, ce_W_c (by decide), ce_W_at, ce_W_at]
      · rw [mo_so_ne (by decide) (by decide) (by omega), mo_so_ne (by decide) (by decide) (by omega), mo_so_ne (by decide) (by decide) (by omega), mo_so_ne (by decide) (by decide) (by omega), awN, ce_W_r q, ce_W_r q, ce_W_r q, ce_W_r q]
        exact o4 w hw
  · intro a c h1 h2
    rw [s] at h1
    rw [ma_so (by omega) (by decide), ma_so (by omega) (by decide), c1 1 a c (by decide)]; exact ha a c h1 h2
  · intro a c h1 h2
    rw [s] at h1
    rw [mk_so (by omega) (by decide), mk_so (by omega) (by decide), c1 2 a c (by decide)]; exact hk a c h1 h2
  · intro a c h1 h2
    rw [s] at h1
    rw [mw_so (by omega) (by decide), mw_so (by omega) (by decide), c1 3 a c (by decide)]; exact hw a c h1 h2
