/-! HOW FAIR it is: both reckon the same spread -/
theorem sp_core {f : Nat → Int32} {pl : Int32} {nt : Nat} {S : HA} {w g lo x : Int32} {q : Nat → Nat} : ∀ n, n < 2 ^ 31 → (∀ r, r < n → rtM f pl nt r = nI (q r) ∧ rateS S (nI r) (amountS S w g lo x (nI r)) = nI (q r) ∧ q r < 2 ^ 31) → 0 < n →
    spM f pl nt n = spreadL S w g lo x n ∧ ∃ a b, spM f pl nt n = (nI a, nI b) ∧ a ≤ b ∧ b < 2 ^ 31
  | 0, _, _, h => absurd h (Nat.lt_irrefl 0)
  | n + 1, hn, h, _ => by
    obtain ⟨h1, h2, h3⟩ := h n (Nat.lt_succ_self n)
    rw [spM, spreadL, h1, h2, spStep]
    by_cases q0 : n = 0
    · subst q0
      have e2 : (if (spreadL S w g lo x 0).2 < nI (q 0) then nI (q 0) else (spreadL S w g lo x 0).2) = nI (q 0) := by
        show (if nI 0 < nI (q 0) then nI (q 0) else nI 0) = nI (q 0)
        by_cases z : 0 < q 0
        · rw [if_pos ((nI_ltI (by decide) h3).mpr z)]
        · rw [if_neg (fun y => z ((nI_ltI (by decide) h3).mp y)), show q 0 = 0 by omega]
      rw [if_pos (show nI 0 = 0 from rfl), if_pos (show nI 0 = 0 from rfl), if_neg (not_not_intro (show nI 0 = 0 from rfl)), e2]
      exact ⟨rfl, q 0, q 0, rfl, Nat.le_refl _, h3⟩
    · obtain ⟨e, a, b, ea, hab, hb⟩ := sp_core n (by omega) (fun r hr => h r (by omega)) (by omega)
      have n0 : ¬ nI n = 0 := fun z => q0 ((nI_eq (b := 0) (by omega) (by decide)).mp z)
      rw [if_neg n0, if_neg n0, if_pos n0, ← e, ea]
      have c1 : (if nI (q n) < nI a then nI (q n) else nI a) = (if nI a ≤ nI (q n) then nI a else nI (q n)) := by
        by_cases z : nI a ≤ nI (q n)
        · rw [if_pos z, if_neg (Int32.not_lt.mpr z)]
        · rw [if_neg z, if_pos (Int32.not_le.mp z)]
      have c2 : (if nI b < nI (q n) then nI (q n) else nI b) = (if nI (q n) ≤ nI b then nI b else nI (q n)) := by
        by_cases z : nI (q n) ≤ nI b
        · rw [if_pos z, if_neg (Int32.not_lt.mpr z)]
        · rw [if_neg z, if_pos (Int32.not_le.mp z)]
      show ((if nI a ≤ nI (q n) then nI a else nI (q n), if nI (q n) ≤ nI b then nI b else nI (q n)) : Int32 × Int32) = (if nI (q n) < nI a then nI (q n) else nI a, if nI b < nI (q n) then nI (q n) else nI b) ∧ _
      rw [c1, c2]
      refine ⟨rfl, if a ≤ q n then a else q n, if q n ≤ b then b else q n, ?_, ?_, ?_⟩
      · by_cases z1 : a ≤ q n
        · by_cases z2 : q n ≤ b
          · rw [if_pos z1, if_pos z2, if_pos (nI_le z1 h3), if_pos (nI_le z2 hb)]
          · rw [if_pos z1, if_neg z2, if_pos (nI_le z1 h3), if_neg (nI_ge (by omega) h3)]
        · rw [if_neg z1, if_pos (show q n ≤ b by omega), if_neg (nI_ge (by omega) (by omega)), if_pos (nI_le (by omega) hb)]
      · split <;> split <;> omega
      · split <;> omega
theorem spread_core {f : Nat → Int32} {pl : Int32} {nt : Nat} {S : HA} {w g lo x : Int32} {q : Nat → Nat} (h8 : sz S 0 ≤ 8) (h : ∀ r, r < sz S 0 → rtM f pl nt r = nI (q r) ∧ rateS S (nI r) (amountS S w g lo x (nI r)) = nI (q r) ∧ q r < 2 ^ 31) : sprM f pl nt (sz S 0) = spreadS S w g lo x := by
  rcases Nat.eq_zero_or_pos (sz S 0) with z | z
  · rw [sprM, spreadS, z]
    show (0 : Int32) - 0 = 0 - 0
    rfl
  · obtain ⟨e, -⟩ := sp_core (sz S 0) (by omega) h z
    show (spM f pl nt (sz S 0)).2 - (spM f pl nt (sz S 0)).1 = (spreadL S w g lo x (sz S 0)).2 - (spreadL S w g lo x (sz S 0)).1
    rw [e]
theorem rt_gen {f : Nat → Int32} {pl : Int32} {nt r k w : Nat} {S : HA} {ww g lo x : Int32} (hr : r < 2 ^ 31) (h1 : (if pl = 0 then mo f r 1 else lm f r nt) = nI k) (h2 : amountS S ww g lo x (nI r) = nI k) (h3 : mo f r 0 = nI w) (h4 : ce S 0 r 0 = nI w) (hw : 1 ≤ w) (hw10 : w ≤ 10) (hk : k ≤ 2000000) :
    rtM f pl nt r = nI (1000 * k / w) ∧ rateS S (nI r) (amountS S ww g lo x (nI r)) = nI (1000 * k / w) ∧ 1000 * k / w < 2 ^ 31 := by
  have hd : (1000 : Int32) * nI k / nI w = nI (1000 * k / w) := by
    rw [show (1000 : Int32) = nI 1000 from rfl, pk_mul]
    exact pk_div (by omega) (by omega) (by omega)
  refine ⟨by rw [rtM, h1, h3, hd], ?_, Nat.lt_of_le_of_lt (Nat.div_le_self _ _) (by omega)⟩
  rw [rateS, cl0 hr, h4, h2, if_neg (show ¬ nI w ≤ 0 from nI_ge (a := 0) (by omega) (by omega)), hd]
theorem nI_6 {r : Nat} (h : r < 2 ^ 31) : ¬ nI r = -6 := fun z => absurd (show nI r < 0 by rw [z]; decide) (nI_pos h)
theorem amount_0 {S : HA} {r : Nat} (hr : r < 2 ^ 31) : amountS S 0 (-6) (-6) 0 (nI r) = ce S 0 r 3 := by
  rw [amountS, if_pos rfl, if_pos (nI_6 hr), if_pos (nI_6 hr), cl3 hr, Int32.add_zero]
theorem amount_1 {S : HA} {r : Nat} (hr : r < 2 ^ 31) : amountS S 1 (-6) (-6) 0 (nI r) = loadS S (nI r) := by
  rw [amountS, if_neg (show ¬ (1 : Int32) = 0 by decide), if_pos (nI_6 hr), if_pos (nI_6 hr), Int32.add_zero]
theorem spread_0 {S : HA} {f : Nat → Int32} {n : Nat} (hE : ED S f) (hV : V S n) (hn : n ≤ 1900000) : sprM f 0 (sz S 2) (sz S 0) = spreadS S 0 (-6) (-6) 0 := by
  have h8 := hV.1.2.1.1
  refine spread_core (q := fun r => 1000 * (ce S 0 r 3).toNatClampNeg / (ce S 0 r 0).toNatClampNeg) h8 (fun r hr => ?_)
  obtain ⟨⟨w, hw1, hw2, hw3⟩, ⟨k, hk, h3⟩, -⟩ := hV.2.1 r hr
  have hO := hE.2.2.2.2.1 r hr
  show _ = nI (1000 * (ce S 0 r 3).toNatClampNeg / (ce S 0 r 0).toNatClampNeg) ∧ _ = nI (1000 * (ce S 0 r 3).toNatClampNeg / (ce S 0 r 0).toNatClampNeg) ∧ 1000 * (ce S 0 r 3).toNatClampNeg / (ce S 0 r 0).toNatClampNeg < 2 ^ 31
  rw [h3, hw3, nI_clamp (by omega), nI_clamp (by omega)]
  exact rt_gen (by omega) (by rw [if_pos rfl, hO.2.1, h3]) (by rw [amount_0 (by omega), h3]) (hO.1.trans hw3) hw3 hw1 hw2 (by omega)
theorem spread_1 {S : HA} {f : Nat → Int32} {n : Nat} (hE : ED S f) (hV : V S n) (hn : n ≤ 1900000) : sprM f 1 (sz S 2) (sz S 0) = spreadS S 1 (-6) (-6) 0 := by
  have h8 := hV.1.2.1.1
  refine spread_core (q := fun r => 1000 * (loadS S (nI r)).toNatClampNeg / (ce S 0 r 0).toNatClampNeg) h8 (fun r hr => ?_)
  obtain ⟨⟨w, hw1, hw2, hw3⟩, -⟩ := hV.2.1 r hr
  obtain ⟨k, hk, hl⟩ := load_nn hV hr
  have hO := hE.2.2.2.2.1 r hr
  show _ = nI (1000 * (loadS S (nI r)).toNatClampNeg / (ce S 0 r 0).toNatClampNeg) ∧ _ = nI (1000 * (loadS S (nI r)).toNatClampNeg / (ce S 0 r 0).toNatClampNeg) ∧ 1000 * (loadS S (nI r)).toNatClampNeg / (ce S 0 r 0).toNatClampNeg < 2 ^ 31
  rw [hl, hw3, nI_clamp (by omega), nI_clamp (by omega)]
  exact rt_gen (by omega) (by rw [if_neg (show ¬ (1 : Int32) = 0 by decide), load_eq hE hV hr, hl]) (by rw [amount_1 (by omega), hl]) (hO.1.trans hw3) hw3 hw1 hw2 (by omega)
theorem e_accN {S : HA} {f : Nat → Int32} {a b r1 r2 : Nat} (h : ED S f) (g : Int32) (ha : a < sz S 2) (hb : b < sz S 2) (hw1 : ce S 2 a 1 = nI r1) (hw2 : ce S 2 b 1 = nI r2) : ED (accN S a b r1 r2 g) (exM f a b) := by
  have hk := h.2.2.2.2.2.2.1
  have E1 := e_sk h ha (by decide : 1 < 5) (nI r2)
  have E2 := e_sk E1 (t := b) (by rw [sz_W]; exact hb) (by decide : 1 < 5) (nI r1)
  have E4 := e_6 (e_6 E2 (r := r1) (ce S 0 r1 6 + g)) (r := r2) ((if r2 = r1 then ce S 0 r1 6 + g else ce S 0 r2 6) + -g)
  have ef : exM f a b = sk (sk f a 1 (nI r2)) b 1 (nI r1) := by rw [exM, hk a 1 ha (by decide), hk b 1 hb (by decide), hw1, hw2]
  rw [← ef] at E4
  exact E4
theorem spread_x {S : HA} {f : Nat → Int32} {n a b : Nat} (hE : ED S f) (hV : V S n) (hn : n ≤ 1800000) (ha : a < sz S 2) (hb : b < sz S 2) (hao : ce S 2 a 3 = 0) (hbo : ce S 2 b 3 = 0) (hne : ¬ ce S 2 a 1 = ce S 2 b 1) : sprM (exM f a b) 1 (sz S 2) (sz S 0) = spreadIfS S (nI a) (nI b) := by
  obtain ⟨h8, h6, h12, hs6⟩ := hV.1.2.1
  obtain ⟨-, ⟨r1, hr1, hw1⟩, -⟩ := hV.2.2.2.1 a ha
  obtain ⟨-, ⟨r2, hr2, hw2⟩, -⟩ := hV.2.2.2.1 b hb
  have h12' : ¬ r2 = r1 := fun z => hne (by rw [hw1, hw2, z])
  have VX := v_accN hV ha hb hao hbo hr1 hr2 hw1 hw2
  have EX := e_accN hE (ce S 2 b 2 - ce S 2 a 2) ha hb hw1 hw2
  have c0 : ∀ x c, c ≠ 6 → ce (accN S a b r1 r2 (ce S 2 b 2 - ce S 2 a 2)) 0 x c = ce S 0 x c := fun x c h => by rw [accN, ce_W_c h, ce_W_c h, exT, ce_W_ne (by decide), ce_W_ne (by decide)]
  have c6 : ∀ x, ce (accN S a b r1 r2 (ce S 2 b 2 - ce S 2 a 2)) 0 x 6 = if x = r2 then ce S 0 r2 6 + -(ce S 2 b 2 - ce S 2 a 2) else if x = r1 then ce S 0 r1 6 + (ce S 2 b 2 - ce S 2 a 2) else ce S 0 x 6 := fun x => by
    rw [accN, ce_W, ce_W, exT, ce_W_ne (by decide), ce_W_ne (by decide), if_neg h12']
    simp only [and_true]
  have s : ∀ j, sz (accN S a b r1 r2 (ce S 2 b 2 - ce S 2 a 2)) j = sz S j := fun j => by rw [accN, sz_W, sz_W, exT, sz_W, sz_W]
  generalize hX : accN S a b r1 r2 (ce S 2 b 2 - ce S 2 a 2) = X at VX EX c0 c6 s
  have el : ∀ r, r < sz S 0 → lm (exM f a b) r (sz S 2) = loadS X (nI r) := fun r hr => by
    have := load_eq EX VX (r := r) (by rw [s]; exact hr)
    rw [s] at this
    exact this
  rw [spreadIfS, gainS, cl1 (by omega), cl1 (by omega), cl2 (by omega), cl2 (by omega), hw1, hw2]
  refine spread_core (q := fun r => 1000 * (loadS X (nI r)).toNatClampNeg / (ce S 0 r 0).toNatClampNeg) h8 (fun r hr => ?_)
  obtain ⟨⟨w, hw1', hw2', hw3⟩, -⟩ := hV.2.1 r hr
  obtain ⟨k, hk, hl⟩ := load_nn VX (r := r) (by rw [s]; exact hr)
  have hO := EX.2.2.2.2.1 r (by rw [s]; exact hr)
  show _ = nI (1000 * (loadS X (nI r)).toNatClampNeg / (ce S 0 r 0).toNatClampNeg) ∧ _ = nI (1000 * (loadS X (nI r)).toNatClampNeg / (ce S 0 r 0).toNatClampNeg) ∧ 1000 * (loadS X (nI r)).toNatClampNeg / (ce S 0 r 0).toNatClampNeg < 2 ^ 31
  rw [hl, hw3, nI_clamp (by omega), nI_clamp (by omega)]
  refine rt_gen (by omega) (by rw [if_neg (show ¬ (1 : Int32) = 0 by decide), el r hr, hl]) ?_ (hO.1.trans ((c0 r 0 (by decide)).trans hw3)) hw3 hw1' hw2' (by omega)
  have inj : ∀ y, y < sz S 0 → (nI r = nI y ↔ r = y) := fun y hy => nI_eq (by omega) (by omega)
  rw [← hl, amountS, if_neg (show ¬ (1 : Int32) = 0 by decide), loadS, loadS, cl3 (by omega), cl6 (by omega), cl3 (by omega), cl6 (by omega), c0 r 3 (by decide), c6]
  by_cases q1 : r = r1
  · rw [if_neg (not_not_intro ((inj r1 hr1).mpr q1)), if_neg (fun z => h12' (z.symm.trans q1)), if_pos q1, q1, Int32.add_assoc]
  · rw [if_pos (fun z => q1 ((inj r1 hr1).mp z))]
    by_cases q2 : r = r2
    · rw [if_neg (not_not_intro ((inj r2 hr2).mpr q2)), if_pos q2, q2, Int32.add_assoc]
    · rw [if_pos (fun z => q2 ((inj r2 hr2).mp z)), if_neg q2, if_neg q1, Int32.add_zero]
theorem ex_back (f : Nat → Int32) {a b : Nat} (h : a ≠ b) : exM (exM f a b) a b = f := by
  funext i
  have h1 : mk (exM f a b) b 1 = mk f a 1 := by rw [exM, mk_sk_at]
  have h2 : mk (exM f a b) a 1 = mk f b 1 := by rw [exM, mk_sk_ne (by decide) (by decide) (fun z => h z.1), mk_sk_at]
  have e : exM (exM f a b) a b i = sk (sk (exM f a b) a 1 (mk f a 1)) b 1 (mk f b 1) i := by rw [exM, h1, h2]
  rw [e]
  by_cases q : i = 90 + 5 * b + 1
  · rw [q]; exact up_at
  · rw [sk, up_ne q]
    by_cases q2 : i = 90 + 5 * a + 1
    · rw [q2]; exact up_at
    · rw [sk, up_ne q2, exM, sk, up_ne q, sk, up_ne q2]
theorem dirt_eq {S : HA} {f : Nat → Int32} (hE : ED S f) : ∀ n, n ≤ sz S 1 → foL f n = dirtL S n
  | 0, _ => rfl
  | n + 1, h => by
    have h6 := hE.1.2.1
    have ih := dirt_eq hE n (by omega)
    have hA := hE.2.2.2.2.2.1 n 3 (by omega) (by decide)
    rw [foL, dirtL, ih, hA, cl3 (by omega)]
    by_cases q : ce S 1 n 3 ≤ dirtL S n
    · rw [if_pos q, if_neg (Int32.not_lt.mpr q)]
    · rw [if_neg q, if_pos (Int32.not_le.mp q)]
theorem open_eq {S : HA} {f : Nat → Int32} (hE : ED S f) : ∀ n, n ≤ sz S 2 → opT f n = cntL S n
  | 0, _ => rfl
  | n + 1, h => by
    have h12 := hE.1.2.2.1
    have hK := hE.2.2.2.2.2.2.1 n 3 (by omega) (by decide)
    rw [opT, cntL, open_eq hE n (by omega), open_n (by omega) (by omega), hK]
    by_cases q : ce S 2 n 3 = 0
    · rw [if_neg (not_not_intro q), if_pos q]; rfl
    · rw [if_pos q, if_neg q]; rfl
theorem openof_eq {S : HA} {f : Nat → Int32} (hE : ED S f) {r : Nat} : ∀ n, n ≤ sz S 2 → opN f r n = cntOL S (nI r) n
  | 0, _ => rfl
  | n + 1, h => by
    have h12 := hE.1.2.2.1
    have hK := hE.2.2.2.2.2.2.1
    rw [opN, cntOL, openof_eq hE n (by omega), openOfS, open_n (by omega) (by omega), hK n 3 (by omega) (by decide), hK n 1 (by omega) (by decide), cl1 (by omega)]
    by_cases q : ce S 2 n 3 = 0
    · by_cases q1 : ce S 2 n 1 = nI r
      · rw [if_neg (not_not_intro q1), if_neg (not_not_intro q), if_pos q, if_neg (show ¬ (1 : Int32) = 0 by decide), if_neg (not_not_intro q1)]; rfl
      · rw [if_pos q1, if_pos q, if_neg (show ¬ (1 : Int32) = 0 by decide), if_pos q1]; exact (Int32.add_zero _).symm
    · rw [if_neg q, if_pos rfl, if_pos q]
      by_cases q1 : ce S 2 n 1 = nI r
      · rw [if_neg (not_not_intro q1)]; exact (Int32.add_zero _).symm
      · rw [if_pos q1]; exact (Int32.add_zero _).symm
theorem first_eq {S : HA} {f : Nat → Int32} (hE : ED S f) {r : Nat} : ∀ k t, t + k = sz S 2 → opF f r k t = firstF S (nI r) k t
  | 0, _, _ => rfl
  | k + 1, t, h => by
    have h12 := hE.1.2.2.1
    have hK := hE.2.2.2.2.2.2.1
    rw [opF, firstF, first_eq hE k (t + 1) (by omega), openOfS, open_n (by omega) (by omega), hK t 3 (by omega) (by decide), hK t 1 (by omega) (by decide), cl1 (by omega)]
    by_cases q : ce S 2 t 3 = 0
    · by_cases q1 : ce S 2 t 1 = nI r
      · rw [if_neg (not_not_intro q1), if_neg (not_not_intro q), if_pos q, if_neg (show ¬ (1 : Int32) = 0 by decide), if_neg (not_not_intro q1), if_neg (show ¬ (1 : Int32) = 0 by decide)]
      · rw [if_pos q1, if_pos q, if_neg (show ¬ (1 : Int32) = 0 by decide), if_pos q1, if_pos rfl]
    · rw [if_neg q, if_pos rfl, if_pos rfl, if_pos q]
      by_cases q1 : ce S 2 t 1 = nI r
      · rw [if_neg (not_not_intro q1)]
      · rw [if_pos q1]
theorem prop_eq {S : HA} {f : Nat → Int32} (hE : ED S f) {a b : Int32} : (prL f a b (sz S 3) = 0 ↔ propF S a b (sz S 3) 0 = 0) := by
  have h6 := hE.1.2.2.2
  have hW := hE.2.2.2.2.2.2.2
  have h1 : ∀ n, n ≤ sz S 3 → (prL f a b n = 0 ↔ ∀ s, s < n → ¬ (ce S 3 s 0 = a ∧ ce S 3 s 1 = b)) := by
    intro n
    induction n with
    | zero => intro _; exact ⟨fun _ s hs => absurd hs (Nat.not_lt_zero s), fun _ => rfl⟩
    | succ n ih =>
      intro hn
      have ih := ih (by omega)
      rw [prL, hW n 0 (by omega) (by decide), hW n 1 (by omega) (by decide)]
      by_cases z : prL f a b n = 0
      · rw [if_neg (not_not_intro z)]
        by_cases q0 : ce S 3 n 0 = a
        · rw [if_neg (not_not_intro q0)]
          by_cases q1 : ce S 3 n 1 = b
          · rw [if_neg (not_not_intro q1)]
            exact ⟨fun y => absurd y (by decide), fun y => absurd ⟨q0, q1⟩ (y n (Nat.lt_succ_self n))⟩
          · rw [if_pos q1]
            refine ⟨fun _ s hs => ?_, fun _ => rfl⟩
            by_cases e : s = n
            · rw [e]; exact fun y => q1 y.2
            · exact ih.mp z s (by omega)
        · rw [if_pos q0]
          refine ⟨fun _ s hs => ?_, fun _ => rfl⟩
          by_cases e : s = n
          · rw [e]; exact fun y => q0 y.1
          · exact ih.mp z s (by omega)
      · rw [if_pos z]
        exact ⟨fun y => absurd y (by decide), fun y => absurd (ih.mpr (fun s hs => y s (by omega))) z⟩
  have h2 : ∀ k t, t + k = sz S 3 → (propF S a b k t = 0 ↔ ∀ s, t ≤ s → s < sz S 3 → ¬ (ce S 3 s 0 = a ∧ ce S 3 s 1 = b)) := by
    intro k
    induction k with
    | zero => intro t ht; exact ⟨fun _ s h1 h2 => by omega, fun _ => rfl⟩
    | succ k ih =>
      intro t ht
      have ih := ih (t + 1) (by omega)
      rw [propF, cl0 (by omega), cl1 (by omega)]
      by_cases q0 : ce S 3 t 0 = a
      · rw [if_neg (not_not_intro q0)]
        by_cases q1 : ce S 3 t 1 = b
        · rw [if_neg (not_not_intro q1)]
          exact ⟨fun y => absurd y (by decide), fun y => absurd ⟨q0, q1⟩ (y t (Nat.le_refl t) (by omega))⟩
        · rw [if_pos q1, ih]
          refine ⟨fun y s s1 s2 => ?_, fun y s s1 s2 => y s (by omega) s2⟩
          by_cases e : s = t
          · rw [e]; exact fun y => q1 y.2
          · exact y s (by omega) s2
      · rw [if_pos q0, ih]
        refine ⟨fun y s s1 s2 => ?_, fun y s s1 s2 => y s (by omega) s2⟩
        by_cases e : s = t
        · rw [e]; exact fun y => q0 y.1
        · exact y s (by omega) s2
  rw [h1 _ (Nat.le_refl _), h2 _ 0 (by omega)]
  exact ⟨fun y s _ hs => y s hs, fun y s hs => y s (Nat.zero_le s) hs⟩
