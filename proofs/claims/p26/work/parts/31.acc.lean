/-! ACCEPTING a swap: the same data, and what holds still holds -/
theorem v_drop {S : HA} {n t : Nat} (hV : V S n) : V (dropS S (nI t)) n := by
  refine VB.v (vb_drop hV.b) ?_
  obtain ⟨-, -, d3⟩ := dr_all (t := t) hV.b
  intro s c hs hc
  obtain ⟨-, s', h1, h2⟩ := d3 s hs
  obtain ⟨u, g1, g2, g3⟩ := hV.w s' c h1 hc
  refine ⟨u, ?_, by rw [h2 c]; exact g2, ?_⟩
  · rw [dropS, sz_T_ne (by decide)]; exact g1
  · rw [dropS, ce_T_ne (by decide)]; exact g3
def exT (S : HA) (a b r1 r2 : Nat) : HA := Wc (Wc S 2 a 1 (nI r2)) 2 b 1 (nI r1)
def accN (S : HA) (a b r1 r2 : Nat) (g : Int32) : HA := Wc (Wc (exT S a b r1 r2) 0 r1 6 (ce S 0 r1 6 + g)) 0 r2 6 ((if r2 = r1 then ce S 0 r1 6 + g else ce S 0 r2 6) + -g)
theorem acc_eq {S : HA} {s a b r1 r2 : Nat} (hb : EB S) (hs : s < sz S 3) (h0 : ce S 3 s 0 = nI a) (h1 : ce S 3 s 1 = nI b) (ha : a < sz S 2) (hbb : b < sz S 2) (hr1 : r1 < sz S 0) (hr2 : r2 < sz S 0) (hw1 : ce S 2 a 1 = nI r1) (hw2 : ce S 2 b 1 = nI r2) :
    accS S (nI s) = dropS (dropS (accN S a b r1 r2 (ce S 2 b 2 - ce S 2 a 2)) (nI a)) (nI b) := by
  obtain ⟨hb0, hb1, hb2, hb3⟩ := hb
  have e0 : cl S 3 (nI s) 0 = nI a := by rw [cl0 (by omega)]; exact h0
  have e1 : cl S 3 (nI s) 1 = nI b := by rw [cl1 (by omega)]; exact h1
  have e2 : cl S 2 (nI a) 1 = nI r1 := by rw [cl1 (by omega)]; exact hw1
  have e3 : cl S 2 (nI b) 1 = nI r2 := by rw [cl1 (by omega)]; exact hw2
  unfold accS gainS
  simp only
  rw [e0, e1, e2, e3, cl2 (by omega), cl2 (by omega), wc1 ha (by decide) (by omega), wc1 (by rw [sz_W]; exact hbb) (by decide) (by rw [sz_W]; omega)]
  rw [inc6 (S := Wc (Wc S 2 a 1 (nI r2)) 2 b 1 (nI r1)) (j := 0) (r := r1) (by rw [sz_W, sz_W]; exact hr1) (by decide) (by rw [sz_W, sz_W]; omega), inc6 (by rw [sz_W, sz_W, sz_W]; exact hr2) (by decide) (by rw [sz_W, sz_W, sz_W]; omega)]
  rw [ce_W_ne (by decide), ce_W_ne (by decide)]
  unfold accN exT
  rw [ce_W]
  by_cases q : r2 = r1
  · rw [if_pos ⟨q, rfl⟩, if_pos q]
  · rw [if_neg (fun z => q z.1), if_neg q, ce_W_ne (by decide), ce_W_ne (by decide)]
theorem e_acc {S : HA} {f : Nat → Int32} {a b r1 r2 : Nat} (h : ED S f) (g : Int32) (ha : a < sz S 2) (hb : b < sz S 2) (hw1 : ce S 2 a 1 = nI r1) (hw2 : ce S 2 b 1 = nI r2) :
    ED (dropS (dropS (accN S a b r1 r2 g) (nI a)) (nI b)) (drM (nI b) (drM (nI a) (sz S 3) (exM f a b) (sz S 3)).2 (drM (nI a) (sz S 3) (exM f a b) (sz S 3)).1 (drM (nI a) (sz S 3) (exM f a b) (sz S 3)).2).1 := by
  have hk := h.2.2.2.2.2.2.1
  have E1 := e_sk h ha (by decide : 1 < 5) (nI r2)
  have E2 := e_sk E1 (t := b) (by rw [sz_W]; exact hb) (by decide : 1 < 5) (nI r1)
  have E4 := e_6 (e_6 E2 (r := r1) (ce S 0 r1 6 + g)) (r := r2) ((if r2 = r1 then ce S 0 r1 6 + g else ce S 0 r2 6) + -g)
  have ef : exM f a b = sk (sk f a 1 (nI r2)) b 1 (nI r1) := by rw [exM, hk a 1 ha (by decide), hk b 1 hb (by decide), hw1, hw2]
  rw [← ef] at E4
  have s3 : sz (accN S a b r1 r2 g) 3 = sz S 3 := by rw [accN, sz_W, sz_W, exT, sz_W, sz_W]
  have D := e_dr (S := accN S a b r1 r2 g) (t := nI a) (sz S 3) (exM f a b) ((accN S a b r1 r2 g).1 3) (by rw [← s3]; exact Nat.le_refl _) (by rw [setT_self]; exact E4)
  have e31 : ((accN S a b r1 r2 g).1 3).1 = sz S 3 := s3
  rw [e31] at D
  have e5 : setT (accN S a b r1 r2 g) 3 (dropT (nI a) (sz S 3) ((accN S a b r1 r2 g).1 3)) = dropS (accN S a b r1 r2 g) (nI a) := by rw [dropS, s3]
  have e6 : sz (dropS (accN S a b r1 r2 g) (nI a)) 3 = (drM (nI a) (sz S 3) (exM f a b) (sz S 3)).2 := by rw [← e5, sz_T]; exact D.2
  have F := e_drop (nI b) (e5 ▸ D.1)
  rw [e6] at F
  exact F
theorem v_accN {S : HA} {n a b r1 r2 : Nat} (hV : V S n) (ha : a < sz S 2) (hb : b < sz S 2) (hao : ce S 2 a 3 = 0) (hbo : ce S 2 b 3 = 0) (hr1 : r1 < sz S 0) (hr2 : r2 < sz S 0) (hw1 : ce S 2 a 1 = nI r1) (hw2 : ce S 2 b 1 = nI r2) : V (accN S a b r1 r2 (ce S 2 b 2 - ce S 2 a 2)) (n + 60) := by
  obtain ⟨⟨a1, ⟨b0, b1, b2, b3⟩, a3, a4⟩, a5, a6, a7, a8, a9, a10⟩ := hV
  obtain ⟨-, -, ⟨e1, he1, hc1⟩, -, -⟩ := a7 a ha
  obtain ⟨-, -, ⟨e2, he2, hc2⟩, -, -⟩ := a7 b hb
  rw [hc1, hc2]
  generalize hX : accN S a b r1 r2 (nI e2 - nI e1) = X
  have s : ∀ j, sz X j = sz S j := fun j => by rw [← hX, accN, sz_W, sz_W, exT, sz_W, sz_W]
  have c1 : ∀ j x c, j ≠ 0 → j ≠ 2 → ce X j x c = ce S j x c := fun j x c h0 h2 => by rw [← hX, accN, ce_W_ne h0, ce_W_ne h0, exT, ce_W_ne h2, ce_W_ne h2]
  have c0 : ∀ x c, c ≠ 6 → ce X 0 x c = ce S 0 x c := fun x c h => by rw [← hX, accN, ce_W_c h, ce_W_c h, exT, ce_W_ne (by decide), ce_W_ne (by decide)]
  have c2 : ∀ x c, c ≠ 1 → ce X 2 x c = ce S 2 x c := fun x c h => by rw [← hX, accN, ce_W_ne (by decide), ce_W_ne (by decide), exT, ce_W_c h, ce_W_c h]
  have c21 : ∀ x, ce X 2 x 1 = if x = b then nI r1 else if x = a then nI r2 else ce S 2 x 1 := fun x => by
    rw [← hX, accN, ce_W_ne (by decide), ce_W_ne (by decide), exT, ce_W, ce_W]
    simp only [and_true]
  have c06 : ∀ x, ce X 0 x 6 = if x = r2 then (if r2 = r1 then ce S 0 r1 6 + (nI e2 - nI e1) else ce S 0 r2 6) + -(nI e2 - nI e1) else if x = r1 then ce S 0 r1 6 + (nI e2 - nI e1) else ce S 0 x 6 := fun x => by
    rw [← hX, accN, ce_W, ce_W, exT, ce_W_ne (by decide), ce_W_ne (by decide)]
    simp only [and_true]
  have tm : ∀ x u, u ≠ a → u ≠ b → tmN X x u = tmN S x u := fun x u h1 h2 => by
    unfold tmN
    rw [c21, if_neg h2, if_neg h1, c2 u 3 (by decide), c2 u 2 (by decide)]
  have inj : ∀ x y, x < sz S 0 → y < sz S 0 → (nI x = nI y ↔ x = y) := fun x y hx hy => nI_eq (by omega) (by omega)
  have val : ∀ (T : HA) x r u e, x < sz S 0 → r < sz S 0 → ce T 2 u 1 = nI r → ce T 2 u 3 = 0 → ce T 2 u 2 = nI e → e ≤ 60 → tmN T x u = if x = r then e else 0 := fun T x r u e hx hr g1 g2 g3 g4 => by
    unfold tmN
    rw [g1, g2, g3]
    by_cases q : x = r
    · rw [if_pos ⟨by rw [q], rfl⟩, if_pos q, nI_clamp (by omega)]
    · rw [if_neg (fun z => q ((inj _ _ hr hx).mp z.1).symm), if_neg q]
  have ta : ∀ x, x < sz S 0 → tmN S x a = if x = r1 then e1 else 0 := fun x hx => val S x r1 a e1 hx hr1 hw1 hao hc1 he1
  have tb : ∀ x, x < sz S 0 → tmN S x b = if x = r2 then e2 else 0 := fun x hx => val S x r2 b e2 hx hr2 hw2 hbo hc2 he2
  have key : ∀ x, x < sz S 0 → osN X x (sz S 2) ≤ osN S x (sz S 2) + 60 ∧ ce X 0 x 6 = nI (osN X x (sz S 2)) := by
    intro x hx
    obtain ⟨-, -, -, h6⟩ := a5 x hx
    obtain ⟨-, -, -, h61⟩ := a5 r1 hr1
    obtain ⟨-, -, -, h62⟩ := a5 r2 hr2
    rw [c06]
    by_cases hab : a = b
    · subst hab
      have er : r1 = r2 := (inj _ _ hr1 hr2).mp (hw1.symm.trans hw2)
      subst er
      have ee : e1 = e2 := (nI_eq (by omega) (by omega)).mp (hc1.symm.trans hc2)
      subst ee
      have os : osN X x (sz S 2) = osN S x (sz S 2) := osN_congr _ (fun u hu => by
        by_cases q : u = a
        · subst q
          unfold tmN
          rw [c21, if_pos rfl, c2 u 3 (by decide), c2 u 2 (by decide), hw1]
        · exact tm x u q q)
      rw [os]
      refine ⟨by omega, ?_⟩
      by_cases q : x = r1
      · subst q
        rw [if_pos rfl, if_pos rfl, ← h6]
        grind
      · rw [if_neg q, if_neg q]; exact h6
    · have o := osN_two (S := S) (S' := X) (r := x) (sz S 2) ha hb hab (fun u _ h1 h2 => tm x u h1 h2)
      rw [ta x hx, tb x hx, val X x r2 a e1 hx hr2 (by rw [c21, if_neg hab, if_pos rfl]) (by rw [c2 a 3 (by decide)]; exact hao) (by rw [c2 a 2 (by decide)]; exact hc1) he1,
        val X x r1 b e2 hx hr1 (by rw [c21, if_pos rfl]) (by rw [c2 b 3 (by decide)]; exact hbo) (by rw [c2 b 2 (by decide)]; exact hc2) he2] at o
      have sum : ∀ m m' x1 x2 : Nat, m' + x1 = m + x2 → nI m + (nI x2 - nI x1) = nI m' ∧ nI m + -(nI x1 - nI x2) = nI m' := by
        intro m m' x1 x2 h
        have h2 : nI m' + nI x1 = nI m + nI x2 := by rw [nI_add, nI_add, h]
        constructor <;> grind
      by_cases q2 : x = r2
      · rw [if_pos q2]
        by_cases q21 : r2 = r1
        · rw [if_pos q21]
          rw [if_pos q2, if_pos q2, if_pos (q2.trans q21), if_pos (q2.trans q21)] at o
          refine ⟨by omega, ?_⟩
          have : osN X x (sz S 2) = osN S x (sz S 2) := by omega
          rw [this, ← h6, q2, q21]
          grind
        · rw [if_neg q21]
          rw [if_pos q2, if_pos q2, if_neg (fun z => q21 (q2.symm.trans z)), if_neg (fun z => q21 (q2.symm.trans z))] at o
          refine ⟨by omega, ?_⟩
          rw [h62, ← q2]
          exact (sum _ _ e2 e1 (by omega)).2
      · rw [if_neg q2]
        rw [if_neg q2, if_neg q2] at o
        by_cases q1 : x = r1
        · rw [if_pos q1]
          rw [if_pos q1, if_pos q1] at o
          refine ⟨by omega, ?_⟩
          rw [h61, ← q1]
          exact (sum _ _ e1 e2 (by omega)).1
        · rw [if_neg q1]
          rw [if_neg q1, if_neg q1] at o
          have : osN X x (sz S 2) = osN S x (sz S 2) := by omega
          rw [this]
          exact ⟨by omega, h6⟩
  refine ⟨⟨inv_same a1 (by rw [← hX]; rfl) (s 2), ⟨by rw [s]; exact b0, by rw [s]; exact b1, by rw [s]; exact b2, by rw [s]; exact b3⟩, by rw [s]; exact a3, by rw [← hX]; exact a4⟩, ?_, ⟨fun x hx => ?_, by rw [c1 4 0 2 (by decide) (by decide)]; exact a6.2⟩, fun t ht => ?_, ⟨fun t u => ?_, fun t ht => ?_⟩, fun t c ht hc => ?_, ?_⟩
  · intro x hx
    rw [s] at hx
    obtain ⟨h1, ⟨k, h2, h3⟩, ⟨k', h4, h5⟩, -⟩ := a5 x hx
    obtain ⟨y1, y2⟩ := key x hx
    rw [s, c0 x 0 (by decide), c0 x 3 (by decide), c0 x 4 (by decide)]
    exact ⟨h1, ⟨k, by omega, h3⟩, ⟨k', by omega, h5⟩, y2⟩
  · rw [s] at hx
    rw [c1 1 x 0 (by decide) (by decide), c1 1 x 1 (by decide) (by decide)]
    exact a6.1 x hx
  · rw [s] at ht
    obtain ⟨g1, g2, g3⟩ := a7 t ht
    rw [c2 t 0 (by decide), c2 t 2 (by decide), c2 t 3 (by decide), c2 t 4 (by decide), c21, s, s]
    refine ⟨g1, ?_, g3⟩
    split
    · exact ⟨r1, hr1, rfl⟩
    · split
      · exact ⟨r2, hr2, rfl⟩
      · exact g2
  · rw [c2 t 0 (by decide), c2 u 0 (by decide), c2 t 4 (by decide), c2 u 4 (by decide), s]
    exact a8.1 t u
  · rw [s] at ht ⊢
    rw [c2 t 4 (by decide), c2 (t + 1) 0 (by decide), c2 t 0 (by decide)]
    intro h
    rcases a8.2 t ht h with q | ⟨u, q1, q2⟩
    · exact Or.inl q
    · exact Or.inr ⟨u, q1, by rw [c2 u 0 (by decide)]; exact q2⟩
  · rw [s] at ht
    obtain ⟨u, g1, g2, g3⟩ := a9 t c ht hc
    exact ⟨u, by rw [s]; exact g1, by rw [c1 3 t c (by decide) (by decide)]; exact g2, by rw [c2 u 3 (by decide)]; exact g3⟩
  · rw [← hX]
    unfold accN exT
    exact vc_W (vc_W (vc_W (vc_W a10 ha) (by rw [sz_W]; exact hb)) (by rw [sz_W, sz_W]; exact hr1)) (by rw [sz_W, sz_W, sz_W]; exact hr2)
