/-! spreads() of the law -/
def rA (S : HA) (r : Nat) : Int32 := (1000 * ce S 0 r 3) / ce S 0 r 0
def rB (S : HA) (r : Nat) : Int32 := (1000 * loadS S (nI r)) / ce S 0 r 0
def mnF (R : Nat → Int32) : Nat → Int32
  | 0 => 0
  | i + 1 => if i = 0 then R i else if mnF R i ≤ R i then mnF R i else R i
def mxF (R : Nat → Int32) : Nat → Int32
  | 0 => 0
  | i + 1 => if i = 0 then R i else if R i ≤ mxF R i then mxF R i else R i
def rt4 (a b c d : Int32) : Nat → Int32 := fun j => if j = 0 then a else if j = 1 then b else if j = 2 then c else if j = 3 then d else 0
theorem rt4_0 : (fun _ => 0 : Nat → Int32) = rt4 0 0 0 0 := by
  funext j
  unfold rt4
  split
  · rfl
  · split
    · rfl
    · split
      · rfl
      · split <;> rfl
theorem up40 {a b c d x : Int32} : upd (rt4 a b c d) 0 x = rt4 x b c d := by
  funext j
  by_cases h : j = 0
  · rw [h]; rfl
  · rw [up_ne h]
    unfold rt4
    rw [if_neg h, if_neg h]
theorem up41 {a b c d x : Int32} : upd (rt4 a b c d) 1 x = rt4 a x c d := by
  funext j
  by_cases h : j = 1
  · rw [h]; rfl
  · rw [up_ne h]
    unfold rt4
    rw [if_neg h, if_neg h]
theorem up42 {a b c d x : Int32} : upd (rt4 a b c d) 2 x = rt4 a b x d := by
  funext j
  by_cases h : j = 2
  · rw [h]; rfl
  · rw [up_ne h]
    unfold rt4
    rw [if_neg h, if_neg h]
theorem up43 {a b c d x : Int32} : upd (rt4 a b c d) 3 x = rt4 a b c x := by
  funext j
  by_cases h : j = 3
  · rw [h]; rfl
  · rw [up_ne h]
    unfold rt4
    rw [if_neg h, if_neg h]
theorem z0 {i : Nat} (hi : i < 2 ^ 31) : nI i = 0 ↔ i = 0 := nI_eq (b := 0) hi (by decide)
theorem mnF_0 {R : Nat → Int32} {i : Nat} (hi : i < 2 ^ 31) (h : nI i = 0) : mnF R (i + 1) = R i := by rw [mnF, if_pos ((z0 hi).mp h)]
theorem mnF_k {R : Nat → Int32} {i : Nat} (hi : i < 2 ^ 31) (h : ¬ nI i = 0) (h2 : mnF R i ≤ R i) : mnF R (i + 1) = mnF R i := by rw [mnF, if_neg (fun z => h ((z0 hi).mpr z)), if_pos h2]
theorem mnF_n {R : Nat → Int32} {i : Nat} (hi : i < 2 ^ 31) (h : ¬ nI i = 0) (h2 : ¬ mnF R i ≤ R i) : mnF R (i + 1) = R i := by rw [mnF, if_neg (fun z => h ((z0 hi).mpr z)), if_neg h2]
theorem mxF_0 {R : Nat → Int32} {i : Nat} (hi : i < 2 ^ 31) (h : nI i = 0) : mxF R (i + 1) = R i := by rw [mxF, if_pos ((z0 hi).mp h)]
theorem mxF_k {R : Nat → Int32} {i : Nat} (hi : i < 2 ^ 31) (h : ¬ nI i = 0) (h2 : R i ≤ mxF R i) : mxF R (i + 1) = mxF R i := by rw [mxF, if_neg (fun z => h ((z0 hi).mpr z)), if_pos h2]
theorem mxF_n {R : Nat → Int32} {i : Nat} (hi : i < 2 ^ 31) (h : ¬ nI i = 0) (h2 : ¬ R i ≤ mxF R i) : mxF R (i + 1) = R i := by rw [mxF, if_neg (fun z => h ((z0 hi).mpr z)), if_neg h2]
-- the class's spread, as the law has it
theorem sp_mm {S : HA} {w g lo x : Int32} {R : Nat → Int32} : ∀ n, n < 2 ^ 31 → (∀ r, r < n → rateS S (nI r) (amountS S w g lo x (nI r)) = R r) → (∀ r, r < n → ¬ R r < 0) → spreadL S w g lo x n = (mnF R n, mxF R n)
  | 0, _, _, _ => rfl
  | n + 1, hn, h, h0 => by
    rw [spreadL, sp_mm n (by omega) (fun r hr => h r (by omega)) (fun r hr => h0 r (by omega)), h n (Nat.lt_succ_self n), spStep, mnF, mxF]
    by_cases q : n = 0
    · subst q
      have h0n := h0 0 (Nat.lt_succ_self 0)
      rw [if_pos rfl, if_pos rfl, if_neg (not_not_intro (show nI 0 = 0 from rfl))]
      congr 1
      show (if (0 : Int32) < R 0 then R 0 else 0) = R 0
      by_cases q2 : (0 : Int32) < R 0
      · rw [if_pos q2]
      · rw [if_neg q2]
        exact Int32.le_antisymm (Int32.not_lt.mp h0n) (Int32.not_lt.mp q2)
    · rw [if_neg q, if_neg q, if_pos (fun z => q ((z0 (by omega)).mp z))]
      congr 1
      · show (if R n < mnF R n then R n else mnF R n) = if mnF R n ≤ R n then mnF R n else R n
        by_cases q2 : mnF R n ≤ R n
        · rw [if_pos q2, if_neg (Int32.not_lt.mpr q2)]
        · rw [if_neg q2, if_pos (Int32.not_le.mp q2)]
      · show (if mxF R n < R n then R n else mxF R n) = if R n ≤ mxF R n then mxF R n else R n
        by_cases q2 : R n ≤ mxF R n
        · rw [if_pos q2, if_neg (Int32.not_lt.mpr q2)]
        · rw [if_neg q2, if_pos (Int32.not_le.mp q2)]
theorem rate_gen {S : HA} {n r k : Nat} {x : Int32} (hV : V S n) (hr : r < sz S 0) (hx : x = nI k) (hk : k ≤ 2000000) : rateS S (nI r) x = (1000 * x) / ce S 0 r 0 ∧ ¬ (1000 * x) / ce S 0 r 0 < 0 := by
  obtain ⟨w, h1, h2, h3⟩ := (hV.2.1 r hr).1
  have hb := eb31 hV.1.2.1
  have e : (1000 * x) / ce S 0 r 0 = nI (1000 * k / w) := by
    rw [hx, h3, show (1000 : Int32) = nI 1000 from rfl, pk_mul]
    exact pk_div (by omega) (by omega) (by omega)
  refine ⟨?_, by rw [e]; exact nI_pos (Nat.lt_of_le_of_lt (Nat.div_le_self _ _) (by omega))⟩
  rw [rateS, cl0 (by omega), h3, if_neg (show ¬ nI w ≤ 0 from nI_ge (a := 0) (by omega) (by omega))]
theorem rate_rA {S : HA} {n r : Nat} (hV : V S n) (hr : r < sz S 0) : rateS S (nI r) (ce S 0 r 3) = rA S r := by
  obtain ⟨w, h1, h2, h3⟩ := (hV.2.1 r hr).1
  have hb := eb31 hV.1.2.1
  rw [rateS, cl0 (by omega), h3, if_neg (show ¬ nI w ≤ 0 from nI_ge (a := 0) (by omega) (by omega)), rA, h3]
theorem sp_A {S : HA} {n : Nat} (hV : V S n) (hn : n ≤ 1000000) : spreadS S 0 (-6) (-6) 0 = mxF (rA S) (sz S 0) - mnF (rA S) (sz S 0) := by
  have hb := eb31 hV.1.2.1
  rw [spreadS, sp_mm (R := rA S) (sz S 0) (by omega) (fun r hr => by rw [amount_0 (by omega)]; exact rate_rA hV hr) (fun r hr => by
    obtain ⟨-, ⟨k, hk, h3⟩, -⟩ := hV.2.1 r hr
    exact (rate_gen hV hr h3 (by omega)).2)]
theorem sp_B {S : HA} {n : Nat} (hV : V S n) (hn : n ≤ 1000000) : spreadS S 1 (-6) (-6) 0 = mxF (rB S) (sz S 0) - mnF (rB S) (sz S 0) := by
  have hb := eb31 hV.1.2.1
  rw [spreadS, sp_mm (R := rB S) (sz S 0) (by omega) (fun r hr => by
    obtain ⟨k, hk, h⟩ := load_nn hV hr
    rw [amount_1 (by omega), (rate_gen hV hr h (by omega)).1]
    rfl) (fun r hr => by
    obtain ⟨k, hk, h⟩ := load_nn hV hr
    exact (rate_gen hV hr h (by omega)).2)]
theorem fore00 {S : HA} : xforecast S 0 0 = spreadS S 0 (-6) (-6) 0 := by
  rw [xforecast, if_neg (by decide), if_pos (by decide)]
  exact sw_in (j := 0) (by decide) (by decide)
-- the tasks of a resident, from the last one
def sfA (S : HA) (r nt : Nat) : Nat → Int32 × (Int32 × Int32)
  | 0 => (ce S 0 r 3, (0, -6))
  | m + 1 => if ¬ ce S 2 (nt - (m + 1)) 1 = nI r then sfA S r nt m else if ¬ ce S 2 (nt - (m + 1)) 3 = 0 then sfA S r nt m else ((sfA S r nt m).1 + ce S 2 (nt - (m + 1)) 2, ((sfA S r nt m).2.1 + 1, nI (nt - (m + 1))))
theorem sf_n1 {S : HA} {r nt m : Nat} (h : ¬ ce S 2 (nt - (m + 1)) 1 = nI r) : sfA S r nt (m + 1) = sfA S r nt m := by rw [sfA, if_pos h]
theorem sf_n2 {S : HA} {r nt m : Nat} (h : ce S 2 (nt - (m + 1)) 1 = nI r) (h2 : ¬ ce S 2 (nt - (m + 1)) 3 = 0) : sfA S r nt (m + 1) = sfA S r nt m := by rw [sfA, if_neg (not_not_intro h), if_pos h2]
theorem sf_y {S : HA} {r nt m : Nat} (h : ce S 2 (nt - (m + 1)) 1 = nI r) (h2 : ce S 2 (nt - (m + 1)) 3 = 0) : sfA S r nt (m + 1) = ((sfA S r nt m).1 + ce S 2 (nt - (m + 1)) 2, ((sfA S r nt m).2.1 + 1, nI (nt - (m + 1)))) := by rw [sfA, if_neg (not_not_intro h), if_neg (not_not_intro h2)]
def dn (n m : Nat) : Int32 := nI (n - m) - 1
theorem dn_lt {n m : Nat} (hm : m ≤ n) (hn : n < 2 ^ 31) (h : ¬ dn n m < 0) : m < n ∧ dn n m = nI (n - (m + 1)) := by
  have hlt : m < n := by
    rcases Nat.lt_or_ge m n with q | q
    · exact q
    · exfalso
      apply h
      rw [dn, show n - m = 0 by omega]
      decide
  refine ⟨hlt, ?_⟩
  rw [dn, show (1 : Int32) = nI 1 from rfl, pk_sub (by omega), show n - m - 1 = n - (m + 1) by omega]
theorem dn_eq {n m : Nat} (hm : m ≤ n) (hn : n < 2 ^ 31) (h : dn n m < 0) : m = n := by
  rcases Nat.lt_or_ge m n with q | q
  · exfalso
    rw [dn, show (1 : Int32) = nI 1 from rfl, pk_sub (by omega)] at h
    exact nI_pos (by omega) h
  · omega
theorem dn_s {n m : Nat} (h : m < n) : dn n (m + 1) = nI (n - (m + 1)) + (-1) := by rw [dn, Int32.sub_eq_add_neg]
theorem oo_n {S : HA} {t r : Nat} (hB : EB S) (ht : t < sz S 2) : openOfS S (nI t) (nI r) = if ¬ ce S 2 t 1 = nI r then 0 else if ¬ ce S 2 t 3 = 0 then 0 else 1 := by
  have hb := eb31 hB
  rw [openOfS, open_n (by omega) ht, cl1 (by omega)]
  by_cases q3 : ce S 2 t 3 = 0
  · rw [if_pos q3, if_neg (by decide), if_neg (not_not_intro q3)]
  · rw [if_neg q3, if_pos rfl, if_pos q3]
    split <;> rfl
theorem sf_inv {S : HA} {n r : Nat} (hV : V S n) : ∀ m, m ≤ sz S 2 → (sfA S r (sz S 2) m).1 + nI (osN S r (sz S 2 - m)) = ce S 0 r 3 + nI (osN S r (sz S 2)) ∧ (sfA S r (sz S 2) m).2.1 + cntOL S (nI r) (sz S 2 - m) = cntOL S (nI r) (sz S 2) ∧ (sfA S r (sz S 2) m).2.2 = firstF S (nI r) m (sz S 2 - m)
  | 0, _ => ⟨rfl, Int32.zero_add _, rfl⟩
  | m + 1, hm => by
    have hB := hV.1.2.1
    obtain ⟨i1, i2, i3⟩ := sf_inv (r := r) hV m (by omega)
    have ht : sz S 2 - (m + 1) < sz S 2 := by omega
    have e : sz S 2 - m = sz S 2 - (m + 1) + 1 := by omega
    obtain ⟨x, hx, hxe⟩ := (hV.2.2.2.1 _ ht).2.2.1
    have oo := oo_n (r := r) hB ht
    rw [e, osN, tmN] at i1
    rw [e, cntOL, oo] at i2
    rw [e] at i3
    rw [sfA, firstF, oo]
    generalize sz S 2 - (m + 1) = t at i1 i2 i3 hxe ht ⊢
    by_cases q1 : ce S 2 t 1 = nI r
    · by_cases q2 : ce S 2 t 3 = 0
      · rw [if_pos ⟨q1, q2⟩, hxe, nI_clamp (by omega)] at i1
        rw [if_neg (not_not_intro q1), if_neg (not_not_intro q2)] at i2
        rw [if_neg (not_not_intro q1), if_neg (not_not_intro q2), if_neg (not_not_intro q1), if_neg (not_not_intro q2), if_neg (by decide)]
        refine ⟨?_, ?_, rfl⟩
        · show (sfA S r (sz S 2) m).1 + ce S 2 t 2 + nI (osN S r t) = _
          rw [hxe, Int32.add_assoc, nI_add, Nat.add_comm]
          exact i1
        · show (sfA S r (sz S 2) m).2.1 + 1 + cntOL S (nI r) t = _
          rw [Int32.add_assoc, Int32.add_comm 1]
          exact i2
      · rw [if_neg (fun z => q2 z.2), Nat.add_zero] at i1
        rw [if_neg (not_not_intro q1), if_pos q2, show bitS 0 = 0 from rfl, Int32.add_zero] at i2
        rw [if_neg (not_not_intro q1), if_pos q2, if_neg (not_not_intro q1), if_pos q2, if_pos rfl]
        exact ⟨i1, i2, i3⟩
    · rw [if_neg (fun z => q1 z.1), Nat.add_zero] at i1
      rw [if_pos q1, show bitS 0 = 0 from rfl, Int32.add_zero] at i2
      rw [if_pos q1, if_pos q1, if_pos rfl]
      exact ⟨i1, i2, i3⟩
theorem sf_all {S : HA} {n r : Nat} (hV : V S n) (hr : r < sz S 0) : loadS S (nI r) = (sfA S r (sz S 2) (sz S 2)).1 ∧ cntOL S (nI r) (sz S 2) = (sfA S r (sz S 2) (sz S 2)).2.1 ∧ firstF S (nI r) (sz S 2) 0 = (sfA S r (sz S 2) (sz S 2)).2.2 := by
  have hb := eb31 hV.1.2.1
  obtain ⟨i1, i2, i3⟩ := sf_inv (r := r) hV (sz S 2) (Nat.le_refl _)
  obtain ⟨-, -, -, h6⟩ := hV.2.1 r hr
  rw [Nat.sub_self] at i1 i2 i3
  refine ⟨?_, ?_, i3.symm⟩
  · rw [loadS, cl3 (by omega), cl6 (by omega), h6, ← i1, osN]
    exact Int32.add_zero _
  · rw [← i2, cntOL, Int32.add_zero]
set_option maxHeartbeats 4000000 in
theorem c_L_spreads (l : Launch) {S : HA} {Hs : List HA} {P : PV} {n : Nat} (hV : V S n) (hn : n ≤ 1000000)  : LCon l (RL_ 7 1 4 224) yL_spreads cL_spreads 8 [vR (7, 0, 0)] ((S, (Hs, P)) : XS) (fun v X' => v = 1 ∧ X' = ((S, (Hs, P)) : XS)) := by
  refine lcon_of (by decide +kernel) rfl (Nat.le_of_ble_eq_true rfl) (fun B => ?_)
  show GL l (RL_ 7 1 4 224) cL_spreads 8 _ (KM (fun v X' => v = 1 ∧ X' = ((S, (Hs, P)) : XS)) 1 4) 0 [] B [some (vR (7, 0, 0)), none, none, none, none, none, none, none] [] ((S, (Hs, P)) : XS) 0 0
  generalize hK : KM (fun v X' => v = 1 ∧ X' = ((S, (Hs, P)) : XS)) 1 4 = K
  have hB := hV.1.2.1
  obtain ⟨b0, b1, b2, b3⟩ := id hB
  refine l_blk (pc' := 1) (loc' := [some (vR (7, 0, 0)), none, none, none, none, none, none, none]) (st' := [vI (4 : Int32)]) (B' := B) [(0, .iconst 4)] (by decide +kernel) rfl rfl ?_
  refine l_new 7 (by rw [← hK]; exact KM_I) rfl rfl (by decide) rfl rfl ⟨Nat.le_of_ble_eq_true rfl, Nat.le_of_ble_eq_true rfl⟩ (by decide +kernel) ?_
  refine l_blk (pc' := 6) (loc' := [some (vR (7, 0, 0)), some (vR (9, 7, 0)), some (vI (0 : Int32)), none, none, none, none, none]) (st' := []) (B' := putB 7 (fun _ => 0) B) [(3, .astore_n 1), (4, .iconst 0), (5, .istore_n 2)] (by decide +kernel) rfl rfl ?_
  have lp6 : ∀ (k6 i6 : Nat), i6 ≤ sz S 0 → sz S 0 < i6 + k6 → GL l (RL_ 7 1 4 224) cL_spreads 8 (some .boolean) K 6 [7] (putB 7 (rt4 (mnF (rA S) i6) (mxF (rA S) i6) (mnF (rB S) i6) (mxF (rB S) i6)) B) [some (vR (7, 0, 0)), some (vR (9, 7, 0)), some (vI (nI i6)), none, none, none, none, none] [] ((S, (Hs, P)) : XS) 1 4 := by
    intro k6
    induction k6 with
    | zero =>
      intro i6 hi6 hk6
      exact absurd hk6 (by omega)
    | succ k6 ih6 =>
      intro i6 hi6 hk6
      refine l_blk (pc' := 9) (loc' := [some (vR (7, 0, 0)), some (vR (9, 7, 0)), some (vI (nI i6)), none, none, none, none, none]) (st' := [vI (1 : Int32), vR (7, 0, 0), vI (nI i6)]) (B' := putB 7 (rt4 (mnF (rA S) i6) (mxF (rA S) i6) (mnF (rB S) i6) (mxF (rB S) i6)) B) [(6, .iload_n 2), (7, .aload_n 0), (8, .iconst 1)] (by decide +kernel) rfl rfl ?_
      refine l_callV (nI (sz S 0)) ((S, (Hs, P)) : XS) [vI (1 : Int32)] [vI (nI i6)] vl_RL_60 mi_X4_count (k_count l (r_count1)) rfl rfl rfl ⟨Nat.le_of_ble_eq_true rfl, Nat.le_of_ble_eq_true rfl⟩ rfl (Nat.le_of_ble_eq_true rfl) ⟨Nat.le_of_ble_eq_true rfl, Nat.le_of_ble_eq_true rfl⟩ (by decide +kernel) ?_
      refine l_icmp_ge (off := 253) (tgt := 265) (by decide +kernel) (by decide) (fun zc12 => ?_) (fun zc12 => ?_)
      · rw [nI_leI (by omega) (by omega)] at zc12
        obtain rfl : i6 = sz S 0 := by omega
        refine l_blk (pc' := 268) (loc' := [some (vR (7, 0, 0)), some (vR (9, 7, 0)), some (vI (nI (sz S 0))), none, none, none, none, none]) (st' := [vI (9 : Int32), vR (7, 0, 0)]) (B' := putB 7 (rt4 (mnF (rA S) (sz S 0)) (mxF (rA S) (sz S 0)) (mnF (rB S) (sz S 0)) (mxF (rB S) (sz S 0))) B) [(265, .aload_n 0), (266, .bipush 9)] (by decide +kernel) rfl rfl ?_
        refine l_callV (spreadS S 0 (-6) (-6) 0) ((S, (Hs, P)) : XS) [vI (9 : Int32)] [] vl_RL_60 mi_X4_count (k_count l (r_count9)) rfl rfl rfl ⟨Nat.le_of_ble_eq_true rfl, Nat.le_of_ble_eq_true rfl⟩ rfl (Nat.le_of_ble_eq_true rfl) ⟨Nat.le_of_ble_eq_true rfl, Nat.le_of_ble_eq_true rfl⟩ (by decide +kernel) ?_
        refine l_blk (pc' := 273) (loc' := [some (vR (7, 0, 0)), some (vR (9, 7, 0)), some (vI (nI (sz S 0))), none, none, none, none, none]) (st' := [vI (1 : Int32), vR (9, 7, 0), vI (spreadS S 0 (-6) (-6) 0)]) (B' := putB 7 (rt4 (mnF (rA S) (sz S 0)) (mxF (rA S) (sz S 0)) (mnF (rB S) (sz S 0)) (mxF (rB S) (sz S 0))) B) [(271, .aload_n 1), (272, .iconst 1)] (by decide +kernel) rfl rfl ?_
        refine l_ald 7 (i := 1) (v := mxF (rA S) (sz S 0)) (by decide) (show 1 < 4 by omega) (rfl) (by decide +kernel) ?_
        refine l_blk (pc' := 276) (loc' := [some (vR (7, 0, 0)), some (vR (9, 7, 0)), some (vI (nI (sz S 0))), none, none, none, none, none]) (st' := [vI (0 : Int32), vR (9, 7, 0), vI (mxF (rA S) (sz S 0)), vI (spreadS S 0 (-6) (-6) 0)]) (B' := putB 7 (rt4 (mnF (rA S) (sz S 0)) (mxF (rA S) (sz S 0)) (mnF (rB S) (sz S 0)) (mxF (rB S) (sz S 0))) B) [(274, .aload_n 1), (275, .iconst 0)] (by decide +kernel) rfl rfl ?_
        refine l_ald 7 (i := 0) (v := mnF (rA S) (sz S 0)) (by decide) (show 0 < 4 by omega) (rfl) (by decide +kernel) ?_
        refine l_blk (pc' := 278) (loc' := [some (vR (7, 0, 0)), some (vR (9, 7, 0)), some (vI (nI (sz S 0))), none, none, none, none, none]) (st' := [vI ((mxF (rA S) (sz S 0)) - (mnF (rA S) (sz S 0))), vI (spreadS S 0 (-6) (-6) 0)]) (B' := putB 7 (rt4 (mnF (rA S) (sz S 0)) (mxF (rA S) (sz S 0)) (mnF (rB S) (sz S 0)) (mxF (rB S) (sz S 0))) B) [(277, .isub)] (by decide +kernel) rfl rfl ?_
        refine l_icmp_ne (off := 38) (tgt := 316) (by decide +kernel) (by decide) (fun zc278 => ?_) (fun zc278 => ?_)
        · exact absurd zc278 (not_not_intro (sp_A hV hn))
        · refine l_blk (pc' := 284) (loc' := [some (vR (7, 0, 0)), some (vR (9, 7, 0)), some (vI (nI (sz S 0))), none, none, none, none, none]) (st' := [vI (10 : Int32), vR (7, 0, 0)]) (B' := putB 7 (rt4 (mnF (rA S) (sz S 0)) (mxF (rA S) (sz S 0)) (mnF (rB S) (sz S 0)) (mxF (rB S) (sz S 0))) B) [(281, .aload_n 0), (282, .bipush 10)] (by decide +kernel) rfl rfl ?_
          refine l_callV (spreadS S 1 (-6) (-6) 0) ((S, (Hs, P)) : XS) [vI (10 : Int32)] [] vl_RL_60 mi_X4_count (k_count l (r_count10)) rfl rfl rfl ⟨Nat.le_of_ble_eq_true rfl, Nat.le_of_ble_eq_true rfl⟩ rfl (Nat.le_of_ble_eq_true rfl) ⟨Nat.le_of_ble_eq_true rfl, Nat.le_of_ble_eq_true rfl⟩ (by decide +kernel) ?_
          refine l_blk (pc' := 289) (loc' := [some (vR (7, 0, 0)), some (vR (9, 7, 0)), some (vI (nI (sz S 0))), none, none, none, none, none]) (st' := [vI (3 : Int32), vR (9, 7, 0), vI (spreadS S 1 (-6) (-6) 0)]) (B' := putB 7 (rt4 (mnF (rA S) (sz S 0)) (mxF (rA S) (sz S 0)) (mnF (rB S) (sz S 0)) (mxF (rB S) (sz S 0))) B) [(287, .aload_n 1), (288, .iconst 3)] (by decide +kernel) rfl rfl ?_
          refine l_ald 7 (i := 3) (v := mxF (rB S) (sz S 0)) (by decide) (show 3 < 4 by omega) (rfl) (by decide +kernel) ?_
          refine l_blk (pc' := 292) (loc' := [some (vR (7, 0, 0)), some (vR (9, 7, 0)), some (vI (nI (sz S 0))), none, none, none, none, none]) (st' := [vI (2 : Int32), vR (9, 7, 0), vI (mxF (rB S) (sz S 0)), vI (spreadS S 1 (-6) (-6) 0)]) (B' := putB 7 (rt4 (mnF (rA S) (sz S 0)) (mxF (rA S) (sz S 0)) (mnF (rB S) (sz S 0)) (mxF (rB S) (sz S 0))) B) [(290, .aload_n 1), (291, .iconst 2)] (by decide +kernel) rfl rfl ?_
          refine l_ald 7 (i := 2) (v := mnF (rB S) (sz S 0)) (by decide) (show 2 < 4 by omega) (rfl) (by decide +kernel) ?_
          refine l_blk (pc' := 294) (loc' := [some (vR (7, 0, 0)), some (vR (9, 7, 0)), some (vI (nI (sz S 0))), none, none, none, none, none]) (st' := [vI ((mxF (rB S) (sz S 0)) - (mnF (rB S) (sz S 0))), vI (spreadS S 1 (-6) (-6) 0)]) (B' := putB 7 (rt4 (mnF (rA S) (sz S 0)) (mxF (rA S) (sz S 0)) (mnF (rB S) (sz S 0)) (mxF (rB S) (sz S 0))) B) [(293, .isub)] (by decide +kernel) rfl rfl ?_
          refine l_icmp_ne (off := 22) (tgt := 316) (by decide +kernel) (by decide) (fun zc294 => ?_) (fun zc294 => ?_)
          · exact absurd zc294 (not_not_intro (sp_B hV hn))
          · refine l_blk (pc' := 300) (loc' := [some (vR (7, 0, 0)), some (vR (9, 7, 0)), some (vI (nI (sz S 0))), none, none, none, none, none]) (st' := [vI (0 : Int32), vI (0 : Int32), vR (7, 0, 0)]) (B' := putB 7 (rt4 (mnF (rA S) (sz S 0)) (mxF (rA S) (sz S 0)) (mnF (rB S) (sz S 0)) (mxF (rB S) (sz S 0))) B) [(297, .aload_n 0), (298, .iconst 0), (299, .iconst 0)] (by decide +kernel) rfl rfl ?_
            refine l_callV (spreadS S 0 (-6) (-6) 0) ((S, (Hs, P)) : XS) [vI (0 : Int32), vI (0 : Int32)] [] vl_RL_115 mi_X4_forecast (k_forecast l (fore00)) rfl rfl rfl ⟨Nat.le_of_ble_eq_true rfl, Nat.le_of_ble_eq_true rfl⟩ rfl (Nat.le_of_ble_eq_true rfl) ⟨Nat.le_of_ble_eq_true rfl, Nat.le_of_ble_eq_true rfl⟩ (by decide +kernel) ?_
            refine l_blk (pc' := 306) (loc' := [some (vR (7, 0, 0)), some (vR (9, 7, 0)), some (vI (nI (sz S 0))), none, none, none, none, none]) (st' := [vI (9 : Int32), vR (7, 0, 0), vI (spreadS S 0 (-6) (-6) 0)]) (B' := putB 7 (rt4 (mnF (rA S) (sz S 0)) (mxF (rA S) (sz S 0)) (mnF (rB S) (sz S 0)) (mxF (rB S) (sz S 0))) B) [(303, .aload_n 0), (304, .bipush 9)] (by decide +kernel) rfl rfl ?_
            refine l_callV (spreadS S 0 (-6) (-6) 0) ((S, (Hs, P)) : XS) [vI (9 : Int32)] [vI (spreadS S 0 (-6) (-6) 0)] vl_RL_60 mi_X4_count (k_count l (r_count9)) rfl rfl rfl ⟨Nat.le_of_ble_eq_true rfl, Nat.le_of_ble_eq_true rfl⟩ rfl (Nat.le_of_ble_eq_true rfl) ⟨Nat.le_of_ble_eq_true rfl, Nat.le_of_ble_eq_true rfl⟩ (by decide +kernel) ?_
            refine l_icmp_ne (off := 7) (tgt := 316) (by decide +kernel) (by decide) (fun zc309 => ?_) (fun zc309 => ?_)
            · exact absurd rfl zc309
            · refine l_blk (pc' := 317) (loc' := [some (vR (7, 0, 0)), some (vR (9, 7, 0)), some (vI (nI (sz S 0))), none, none, none, none, none]) (st' := [vI (1 : Int32)]) (B' := putB 7 (rt4 (mnF (rA S) (sz S 0)) (mxF (rA S) (sz S 0)) (mnF (rB S) (sz S 0)) (mxF (rB S) (sz S 0))) B) [(312, .iconst 1), (313, .goto 4)] (by decide +kernel) rfl rfl ?_
              subst hK
              exact l_zret ⟨Nat.le_of_ble_eq_true rfl, Nat.le_of_ble_eq_true rfl⟩ (Or.inr rfl) (⟨rfl, rfl⟩) (by decide +kernel)
      · rw [nI_leI (by omega) (by omega)] at zc12
        refine l_blk (pc' := 18) (loc' := [some (vR (7, 0, 0)), some (vR (9, 7, 0)), some (vI (nI i6)), none, none, none, none, none]) (st' := [vI (1 : Int32), vI (nI i6), vR (7, 0, 0)]) (B' := putB 7 (rt4 (mnF (rA S) i6) (mxF (rA S) i6) (mnF (rB S) i6) (mxF (rB S) i6)) B) [(15, .aload_n 0), (16, .iload_n 2), (17, .iconst 1)] (by decide +kernel) rfl rfl ?_
        refine l_callV (ce S 0 i6 3) ((S, (Hs, P)) : XS) [vI (nI i6), vI (1 : Int32)] [] vl_RL_98 mi_X4_about (k_about l (r_about1 hB (show i6 < sz S 0 by omega))) rfl rfl rfl ⟨Nat.le_of_ble_eq_true rfl, Nat.le_of_ble_eq_true rfl⟩ rfl (Nat.le_of_ble_eq_true rfl) ⟨Nat.le_of_ble_eq_true rfl, Nat.le_of_ble_eq_true rfl⟩ (by decide +kernel) ?_
        refine l_blk (pc' := 31) (loc' := [some (vR (7, 0, 0)), some (vR (9, 7, 0)), some (vI (nI i6)), some (vI (ce S 0 i6 3)), some (vI (0 : Int32)), some (vI (-6 : Int32)), none, none]) (st' := [vI (3 : Int32), vR (7, 0, 0)]) (B' := putB 7 (rt4 (mnF (rA S) i6) (mxF (rA S) i6) (mnF (rB S) i6) (mxF (rB S) i6)) B) [(21, .istore_n 3), (22, .iconst 0), (23, .istore 4), (25, .bipush (-6)), (27, .istore 5), (29, .aload_n 0), (30, .iconst 3)] (by decide +kernel) rfl rfl ?_
        refine l_callV (nI (sz S 2)) ((S, (Hs, P)) : XS) [vI (3 : Int32)] [] vl_RL_60 mi_X4_count (k_count l (r_count3)) rfl rfl rfl ⟨Nat.le_of_ble_eq_true rfl, Nat.le_of_ble_eq_true rfl⟩ rfl (Nat.le_of_ble_eq_true rfl) ⟨Nat.le_of_ble_eq_true rfl, Nat.le_of_ble_eq_true rfl⟩ (by decide +kernel) ?_
        refine l_blk (pc' := 38) (loc' := [some (vR (7, 0, 0)), some (vR (9, 7, 0)), some (vI (nI i6)), some (vI (ce S 0 i6 3)), some (vI (0 : Int32)), some (vI (-6 : Int32)), some (vI ((nI (sz S 2)) - (1 : Int32))), none]) (st' := []) (B' := putB 7 (rt4 (mnF (rA S) i6) (mxF (rA S) i6) (mnF (rB S) i6) (mxF (rB S) i6)) B) [(34, .iconst 1), (35, .isub), (36, .istore 6)] (by decide +kernel) rfl rfl ?_
        have lp38 : ∀ (k38 i38 : Nat), i38 ≤ sz S 2 → sz S 2 < i38 + k38 → GL l (RL_ 7 1 4 224) cL_spreads 8 (some .boolean) K 38 [7] (putB 7 (rt4 (mnF (rA S) i6) (mxF (rA S) i6) (mnF (rB S) i6) (mxF (rB S) i6)) B) [some (vR (7, 0, 0)), some (vR (9, 7, 0)), some (vI (nI i6)), some (vI ((sfA S i6 (sz S 2) i38).1)), some (vI ((sfA S i6 (sz S 2) i38).2.1)), some (vI ((sfA S i6 (sz S 2) i38).2.2)), some (vI (dn (sz S 2) i38)), none] [] ((S, (Hs, P)) : XS) 1 4 := by
          intro k38
          induction k38 with
          | zero =>
            intro i38 hi38 hk38
            exact absurd hk38 (by omega)
          | succ k38 ih38 =>
            intro i38 hi38 hk38
            refine l_blk (pc' := 40) (loc' := [some (vR (7, 0, 0)), some (vR (9, 7, 0)), some (vI (nI i6)), some (vI ((sfA S i6 (sz S 2) i38).1)), some (vI ((sfA S i6 (sz S 2) i38).2.1)), some (vI ((sfA S i6 (sz S 2) i38).2.2)), some (vI (dn (sz S 2) i38)), none]) (st' := [vI (dn (sz S 2) i38)]) (B' := putB 7 (rt4 (mnF (rA S) i6) (mxF (rA S) i6) (mnF (rB S) i6) (mxF (rB S) i6)) B) [(38, .iload 6)] (by decide +kernel) rfl rfl ?_
            refine l_if_lt (off := 47) (tgt := 87) (by decide +kernel) (by decide) (fun zc40 => ?_) (fun zc40 => ?_)
            · obtain rfl : i38 = sz S 2 := dn_eq (by omega) (by omega) zc40
              obtain ⟨f1, f2, f3⟩ := sf_all hV (show i6 < sz S 0 by omega)
              obtain ⟨w0, hw1, hw2, hw3⟩ := (hV.2.1 i6 (by omega)).1
              have nz0 : ¬ ce S 0 i6 0 = 0 := by rw [hw3]; exact fun z => absurd ((nI_eq (b := 0) (by omega) (by decide)).mp z) (by omega)
              refine l_sub (loc' := [some (vR (7, 0, 0)), some (vR (9, 7, 0)), some (vI (nI i6)), some (vI (loadS S (nI i6))), some (vI (cntOL S (nI i6) (sz S 2))), some (vI (firstF S (nI i6) (sz S 2) 0)), none, none]) ⟨Or.inr rfl, ⟨Or.inr rfl, ⟨Or.inr rfl, ⟨Or.inr (congrArg (fun z => some (vI z)) f1), ⟨Or.inr (congrArg (fun z => some (vI z)) f2), ⟨Or.inr (congrArg (fun z => some (vI z)) f3), ⟨Or.inl rfl, ⟨Or.inr rfl, trivial⟩⟩⟩⟩⟩⟩⟩⟩ ?_
              refine l_blk (pc' := 93) (loc' := [some (vR (7, 0, 0)), some (vR (9, 7, 0)), some (vI (nI i6)), some (vI (loadS S (nI i6))), some (vI (cntOL S (nI i6) (sz S 2))), some (vI (firstF S (nI i6) (sz S 2) 0)), none, none]) (st' := [vI (1 : Int32), vI (nI i6), vR (7, 0, 0), vI (1000 : Int32)]) (B' := putB 7 (rt4 (mnF (rA S) i6) (mxF (rA S) i6) (mnF (rB S) i6) (mxF (rB S) i6)) B) [(87, .sipush 1000), (90, .aload_n 0), (91, .iload_n 2), (92, .iconst 1)] (by decide +kernel) rfl rfl ?_
              refine l_callV (ce S 0 i6 3) ((S, (Hs, P)) : XS) [vI (nI i6), vI (1 : Int32)] [vI (1000 : Int32)] vl_RL_98 mi_X4_about (k_about l (r_about1 hB (show i6 < sz S 0 by omega))) rfl rfl rfl ⟨Nat.le_of_ble_eq_true rfl, Nat.le_of_ble_eq_true rfl⟩ rfl (Nat.le_of_ble_eq_true rfl) ⟨Nat.le_of_ble_eq_true rfl, Nat.le_of_ble_eq_true rfl⟩ (by decide +kernel) ?_
              refine l_blk (pc' := 100) (loc' := [some (vR (7, 0, 0)), some (vR (9, 7, 0)), some (vI (nI i6)), some (vI (loadS S (nI i6))), some (vI (cntOL S (nI i6) (sz S 2))), some (vI (firstF S (nI i6) (sz S 2) 0)), none, none]) (st' := [vI (0 : Int32), vI (nI i6), vR (7, 0, 0), vI ((1000 : Int32) * (ce S 0 i6 3))]) (B' := putB 7 (rt4 (mnF (rA S) i6) (mxF (rA S) i6) (mnF (rB S) i6) (mxF (rB S) i6)) B) [(96, .imul), (97, .aload_n 0), (98, .iload_n 2), (99, .iconst 0)] (by decide +kernel) rfl rfl ?_
              refine l_callV (ce S 0 i6 0) ((S, (Hs, P)) : XS) [vI (nI i6), vI (0 : Int32)] [vI ((1000 : Int32) * (ce S 0 i6 3))] vl_RL_98 mi_X4_about (k_about l (r_about0 hB (show i6 < sz S 0 by omega))) rfl rfl rfl ⟨Nat.le_of_ble_eq_true rfl, Nat.le_of_ble_eq_true rfl⟩ rfl (Nat.le_of_ble_eq_true rfl) ⟨Nat.le_of_ble_eq_true rfl, Nat.le_of_ble_eq_true rfl⟩ (by decide +kernel) ?_
              refine l_idiv (by decide +kernel) nz0 ?_
              refine l_st (y := rA S i6) rfl ?_
              refine l_blk (pc' := 114) (loc' := [some (vR (7, 0, 0)), some (vR (9, 7, 0)), some (vI (nI i6)), some (vI (loadS S (nI i6))), some (vI (cntOL S (nI i6) (sz S 2))), some (vI (firstF S (nI i6) (sz S 2) 0)), some (vI (rA S i6)), none]) (st' := [vI (0 : Int32), vI (nI i6), vR (7, 0, 0), vI ((1000 : Int32) * (loadS S (nI i6)))]) (B' := putB 7 (rt4 (mnF (rA S) i6) (mxF (rA S) i6) (mnF (rB S) i6) (mxF (rB S) i6)) B) [(104, .istore 6), (106, .sipush 1000), (109, .iload_n 3), (110, .imul), (111, .aload_n 0), (112, .iload_n 2), (113, .iconst 0)] (by decide +kernel) rfl rfl ?_
              refine l_callV (ce S 0 i6 0) ((S, (Hs, P)) : XS) [vI (nI i6), vI (0 : Int32)] [vI ((1000 : Int32) * (loadS S (nI i6)))] vl_RL_98 mi_X4_about (k_about l (r_about0 hB (show i6 < sz S 0 by omega))) rfl rfl rfl ⟨Nat.le_of_ble_eq_true rfl, Nat.le_of_ble_eq_true rfl⟩ rfl (Nat.le_of_ble_eq_true rfl) ⟨Nat.le_of_ble_eq_true rfl, Nat.le_of_ble_eq_true rfl⟩ (by decide +kernel) ?_
              refine l_idiv (by decide +kernel) nz0 ?_
              refine l_st (y := rB S i6) rfl ?_
              refine l_blk (pc' := 123) (loc' := [some (vR (7, 0, 0)), some (vR (9, 7, 0)), some (vI (nI i6)), some (vI (loadS S (nI i6))), some (vI (cntOL S (nI i6) (sz S 2))), some (vI (firstF S (nI i6) (sz S 2) 0)), some (vI (rA S i6)), some (vI (rB S i6))]) (st' := [vI (4 : Int32), vI (nI i6), vR (7, 0, 0)]) (B' := putB 7 (rt4 (mnF (rA S) i6) (mxF (rA S) i6) (mnF (rB S) i6) (mxF (rB S) i6)) B) [(118, .istore 7), (120, .aload_n 0), (121, .iload_n 2), (122, .iconst 4)] (by decide +kernel) rfl rfl ?_
              refine l_callV (loadS S (nI i6)) ((S, (Hs, P)) : XS) [vI (nI i6), vI (4 : Int32)] [] vl_RL_98 mi_X4_about (k_about l (r_about4 hB (show i6 < sz S 0 by omega))) rfl rfl rfl ⟨Nat.le_of_ble_eq_true rfl, Nat.le_of_ble_eq_true rfl⟩ rfl (Nat.le_of_ble_eq_true rfl) ⟨Nat.le_of_ble_eq_true rfl, Nat.le_of_ble_eq_true rfl⟩ (by decide +kernel) ?_
              refine l_blk (pc' := 127) (loc' := [some (vR (7, 0, 0)), some (vR (9, 7, 0)), some (vI (nI i6)), some (vI (loadS S (nI i6))), some (vI (cntOL S (nI i6) (sz S 2))), some (vI (firstF S (nI i6) (sz S 2) 0)), some (vI (rA S i6)), some (vI (rB S i6))]) (st' := [vI (loadS S (nI i6)), vI (loadS S (nI i6))]) (B' := putB 7 (rt4 (mnF (rA S) i6) (mxF (rA S) i6) (mnF (rB S) i6) (mxF (rB S) i6)) B) [(126, .iload_n 3)] (by decide +kernel) rfl rfl ?_
              refine l_icmp_ne (off := 38) (tgt := 165) (by decide +kernel) (by decide) (fun zc127 => ?_) (fun zc127 => ?_)
              · exact absurd rfl zc127
              · refine l_blk (pc' := 133) (loc' := [some (vR (7, 0, 0)), some (vR (9, 7, 0)), some (vI (nI i6)), some (vI (loadS S (nI i6))), some (vI (cntOL S (nI i6) (sz S 2))), some (vI (firstF S (nI i6) (sz S 2) 0)), some (vI (rA S i6)), some (vI (rB S i6))]) (st' := [vI (5 : Int32), vI (nI i6), vR (7, 0, 0)]) (B' := putB 7 (rt4 (mnF (rA S) i6) (mxF (rA S) i6) (mnF (rB S) i6) (mxF (rB S) i6)) B) [(130, .aload_n 0), (131, .iload_n 2), (132, .iconst 5)] (by decide +kernel) rfl rfl ?_
                refine l_callV (rA S i6) ((S, (Hs, P)) : XS) [vI (nI i6), vI (5 : Int32)] [] vl_RL_98 mi_X4_about (k_about l ((r_about5 hB (show i6 < sz S 0 by omega)).trans (rate_rA hV (by omega)))) rfl rfl rfl ⟨Nat.le_of_ble_eq_true rfl, Nat.le_of_ble_eq_true rfl⟩ rfl (Nat.le_of_ble_eq_true rfl) ⟨Nat.le_of_ble_eq_true rfl, Nat.le_of_ble_eq_true rfl⟩ (by decide +kernel) ?_
                refine l_blk (pc' := 138) (loc' := [some (vR (7, 0, 0)), some (vR (9, 7, 0)), some (vI (nI i6)), some (vI (loadS S (nI i6))), some (vI (cntOL S (nI i6) (sz S 2))), some (vI (firstF S (nI i6) (sz S 2) 0)), some (vI (rA S i6)), some (vI (rB S i6))]) (st' := [vI (rA S i6), vI (rA S i6)]) (B' := putB 7 (rt4 (mnF (rA S) i6) (mxF (rA S) i6) (mnF (rB S) i6) (mxF (rB S) i6)) B) [(136, .iload 6)] (by decide +kernel) rfl rfl ?_
                refine l_icmp_ne (off := 27) (tgt := 165) (by decide +kernel) (by decide) (fun zc138 => ?_) (fun zc138 => ?_)
                · exact absurd rfl zc138
                · refine l_blk (pc' := 145) (loc' := [some (vR (7, 0, 0)), some (vR (9, 7, 0)), some (vI (nI i6)), some (vI (loadS S (nI i6))), some (vI (cntOL S (nI i6) (sz S 2))), some (vI (firstF S (nI i6) (sz S 2) 0)), some (vI (rA S i6)), some (vI (rB S i6))]) (st' := [vI (6 : Int32), vI (nI i6), vR (7, 0, 0)]) (B' := putB 7 (rt4 (mnF (rA S) i6) (mxF (rA S) i6) (mnF (rB S) i6) (mxF (rB S) i6)) B) [(141, .aload_n 0), (142, .iload_n 2), (143, .bipush 6)] (by decide +kernel) rfl rfl ?_
                  refine l_callV (cntOL S (nI i6) (sz S 2)) ((S, (Hs, P)) : XS) [vI (nI i6), vI (6 : Int32)] [] vl_RL_98 mi_X4_about (k_about l (r_about6 hB (show i6 < sz S 0 by omega))) rfl rfl rfl ⟨Nat.le_of_ble_eq_true rfl, Nat.le_of_ble_eq_true rfl⟩ rfl (Nat.le_of_ble_eq_true rfl) ⟨Nat.le_of_ble_eq_true rfl, Nat.le_of_ble_eq_true rfl⟩ (by decide +kernel) ?_
                  refine l_blk (pc' := 150) (loc' := [some (vR (7, 0, 0)), some (vR (9, 7, 0)), some (vI (nI i6)), some (vI (loadS S (nI i6))), some (vI (cntOL S (nI i6) (sz S 2))), some (vI (firstF S (nI i6) (sz S 2) 0)), some (vI (rA S i6)), some (vI (rB S i6))]) (st' := [vI (cntOL S (nI i6) (sz S 2)), vI (cntOL S (nI i6) (sz S 2))]) (B' := putB 7 (rt4 (mnF (rA S) i6) (mxF (rA S) i6) (mnF (rB S) i6) (mxF (rB S) i6)) B) [(148, .iload 4)] (by decide +kernel) rfl rfl ?_
                  refine l_icmp_ne (off := 15) (tgt := 165) (by decide +kernel) (by decide) (fun zc150 => ?_) (fun zc150 => ?_)
                  · exact absurd rfl zc150
                  · refine l_blk (pc' := 157) (loc' := [some (vR (7, 0, 0)), some (vR (9, 7, 0)), some (vI (nI i6)), some (vI (loadS S (nI i6))), some (vI (cntOL S (nI i6) (sz S 2))), some (vI (firstF S (nI i6) (sz S 2) 0)), some (vI (rA S i6)), some (vI (rB S i6))]) (st' := [vI (7 : Int32), vI (nI i6), vR (7, 0, 0)]) (B' := putB 7 (rt4 (mnF (rA S) i6) (mxF (rA S) i6) (mnF (rB S) i6) (mxF (rB S) i6)) B) [(153, .aload_n 0), (154, .iload_n 2), (155, .bipush 7)] (by decide +kernel) rfl rfl ?_
                    refine l_callV (firstF S (nI i6) (sz S 2) 0) ((S, (Hs, P)) : XS) [vI (nI i6), vI (7 : Int32)] [] vl_RL_98 mi_X4_about (k_about l (r_about7 hB (show i6 < sz S 0 by omega))) rfl rfl rfl ⟨Nat.le_of_ble_eq_true rfl, Nat.le_of_ble_eq_true rfl⟩ rfl (Nat.le_of_ble_eq_true rfl) ⟨Nat.le_of_ble_eq_true rfl, Nat.le_of_ble_eq_true rfl⟩ (by decide +kernel) ?_
                    refine l_blk (pc' := 162) (loc' := [some (vR (7, 0, 0)), some (vR (9, 7, 0)), some (vI (nI i6)), some (vI (loadS S (nI i6))), some (vI (cntOL S (nI i6) (sz S 2))), some (vI (firstF S (nI i6) (sz S 2) 0)), some (vI (rA S i6)), some (vI (rB S i6))]) (st' := [vI (firstF S (nI i6) (sz S 2) 0), vI (firstF S (nI i6) (sz S 2) 0)]) (B' := putB 7 (rt4 (mnF (rA S) i6) (mxF (rA S) i6) (mnF (rB S) i6) (mxF (rB S) i6)) B) [(160, .iload 5)] (by decide +kernel) rfl rfl ?_
                    refine l_icmp_eq (off := 5) (tgt := 167) (by decide +kernel) (by decide) (fun zc162 => ?_) (fun zc162 => ?_)
                    · refine l_blk (pc' := 170) (loc' := [some (vR (7, 0, 0)), some (vR (9, 7, 0)), some (vI (nI i6)), some (vI (loadS S (nI i6))), some (vI (cntOL S (nI i6) (sz S 2))), some (vI (firstF S (nI i6) (sz S 2) 0)), some (vI (rA S i6)), some (vI (rB S i6))]) (st' := [vI (nI i6), vI (0 : Int32), vR (9, 7, 0)]) (B' := putB 7 (rt4 (mnF (rA S) i6) (mxF (rA S) i6) (mnF (rB S) i6) (mxF (rB S) i6)) B) [(167, .aload_n 1), (168, .iconst 0), (169, .iload_n 2)] (by decide +kernel) rfl rfl ?_
                      have hm170 : GL l (RL_ 7 1 4 224) cL_spreads 8 (some .boolean) K 189 [7] (putB 7 (rt4 (mnF (rA S) i6) (mxF (rA S) i6) (mnF (rB S) i6) (mxF (rB S) i6)) B) [some (vR (7, 0, 0)), some (vR (9, 7, 0)), some (vI (nI i6)), some (vI (loadS S (nI i6))), some (vI (cntOL S (nI i6) (sz S 2))), some (vI (firstF S (nI i6) (sz S 2) 0)), some (vI (rA S i6)), some (vI (rB S i6))] [vI (mnF (rA S) (i6 + 1)), vI (0 : Int32), vR (9, 7, 0)] ((S, (Hs, P)) : XS) 1 4 := by
                        refine l_ast 7 (i := 0) (B' := putB 7 (upd (rt4 (mnF (rA S) i6) (mxF (rA S) i6) (mnF (rB S) i6) (mxF (rB S) i6)) 0 (mnF (rA S) (i6 + 1))) B) (by decide) (show 0 < 4 by omega) (updB_hd) (by decide +kernel) ?_
                        rw [up40]
                        refine l_blk (pc' := 193) (loc' := [some (vR (7, 0, 0)), some (vR (9, 7, 0)), some (vI (nI i6)), some (vI (loadS S (nI i6))), some (vI (cntOL S (nI i6) (sz S 2))), some (vI (firstF S (nI i6) (sz S 2) 0)), some (vI (rA S i6)), some (vI (rB S i6))]) (st' := [vI (nI i6), vI (1 : Int32), vR (9, 7, 0)]) (B' := putB 7 (rt4 (mnF (rA S) (i6 + 1)) (mxF (rA S) i6) (mnF (rB S) i6) (mxF (rB S) i6)) B) [(190, .aload_n 1), (191, .iconst 1), (192, .iload_n 2)] (by decide +kernel) rfl rfl ?_
                        have hm193 : GL l (RL_ 7 1 4 224) cL_spreads 8 (some .boolean) K 212 [7] (putB 7 (rt4 (mnF (rA S) (i6 + 1)) (mxF (rA S) i6) (mnF (rB S) i6) (mxF (rB S) i6)) B) [some (vR (7, 0, 0)), some (vR (9, 7, 0)), some (vI (nI i6)), some (vI (loadS S (nI i6))), some (vI (cntOL S (nI i6) (sz S 2))), some (vI (firstF S (nI i6) (sz S 2) 0)), some (vI (rA S i6)), some (vI (rB S i6))] [vI (mxF (rA S) (i6 + 1)), vI (1 : Int32), vR (9, 7, 0)] ((S, (Hs, P)) : XS) 1 4 := by
                          refine l_ast 7 (i := 1) (B' := putB 7 (upd (rt4 (mnF (rA S) (i6 + 1)) (mxF (rA S) i6) (mnF (rB S) i6) (mxF (rB S) i6)) 1 (mxF (rA S) (i6 + 1))) B) (by decide) (show 1 < 4 by omega) (updB_hd) (by decide +kernel) ?_
                          rw [up41]
                          refine l_blk (pc' := 216) (loc' := [some (vR (7, 0, 0)), some (vR (9, 7, 0)), some (vI (nI i6)), some (vI (loadS S (nI i6))), some (vI (cntOL S (nI i6) (sz S 2))), some (vI (firstF S (nI i6) (sz S 2) 0)), some (vI (rA S i6)), some (vI (rB S i6))]) (st' := [vI (nI i6), vI (2 : Int32), vR (9, 7, 0)]) (B' := putB 7 (rt4 (mnF (rA S) (i6 + 1)) (mxF (rA S) (i6 + 1)) (mnF (rB S) i6) (mxF (rB S) i6)) B) [(213, .aload_n 1), (214, .iconst 2), (215, .iload_n 2)] (by decide +kernel) rfl rfl ?_
                          have hm216 : GL l (RL_ 7 1 4 224) cL_spreads 8 (some .boolean) K 235 [7] (putB 7 (rt4 (mnF (rA S) (i6 + 1)) (mxF (rA S) (i6 + 1)) (mnF (rB S) i6) (mxF (rB S) i6)) B) [some (vR (7, 0, 0)), some (vR (9, 7, 0)), some (vI (nI i6)), some (vI (loadS S (nI i6))), some (vI (cntOL S (nI i6) (sz S 2))), some (vI (firstF S (nI i6) (sz S 2) 0)), some (vI (rA S i6)), some (vI (rB S i6))] [vI (mnF (rB S) (i6 + 1)), vI (2 : Int32), vR (9, 7, 0)] ((S, (Hs, P)) : XS) 1 4 := by
                            refine l_ast 7 (i := 2) (B' := putB 7 (upd (rt4 (mnF (rA S) (i6 + 1)) (mxF (rA S) (i6 + 1)) (mnF (rB S) i6) (mxF (rB S) i6)) 2 (mnF (rB S) (i6 + 1))) B) (by decide) (show 2 < 4 by omega) (updB_hd) (by decide +kernel) ?_
                            rw [up42]
                            refine l_blk (pc' := 239) (loc' := [some (vR (7, 0, 0)), some (vR (9, 7, 0)), some (vI (nI i6)), some (vI (loadS S (nI i6))), some (vI (cntOL S (nI i6) (sz S 2))), some (vI (firstF S (nI i6) (sz S 2) 0)), some (vI (rA S i6)), some (vI (rB S i6))]) (st' := [vI (nI i6), vI (3 : Int32), vR (9, 7, 0)]) (B' := putB 7 (rt4 (mnF (rA S) (i6 + 1)) (mxF (rA S) (i6 + 1)) (mnF (rB S) (i6 + 1)) (mxF (rB S) i6)) B) [(236, .aload_n 1), (237, .iconst 3), (238, .iload_n 2)] (by decide +kernel) rfl rfl ?_
                            have hm239 : GL l (RL_ 7 1 4 224) cL_spreads 8 (some .boolean) K 258 [7] (putB 7 (rt4 (mnF (rA S) (i6 + 1)) (mxF (rA S) (i6 + 1)) (mnF (rB S) (i6 + 1)) (mxF (rB S) i6)) B) [some (vR (7, 0, 0)), some (vR (9, 7, 0)), some (vI (nI i6)), some (vI (loadS S (nI i6))), some (vI (cntOL S (nI i6) (sz S 2))), some (vI (firstF S (nI i6) (sz S 2) 0)), some (vI (rA S i6)), some (vI (rB S i6))] [vI (mxF (rB S) (i6 + 1)), vI (3 : Int32), vR (9, 7, 0)] ((S, (Hs, P)) : XS) 1 4 := by
                              refine l_ast 7 (i := 3) (B' := putB 7 (upd (rt4 (mnF (rA S) (i6 + 1)) (mxF (rA S) (i6 + 1)) (mnF (rB S) (i6 + 1)) (mxF (rB S) i6)) 3 (mxF (rB S) (i6 + 1))) B) (by decide) (show 3 < 4 by omega) (updB_hd) (by decide +kernel) ?_
                              rw [up43]
                              refine l_blk (pc' := 6) (loc' := [some (vR (7, 0, 0)), some (vR (9, 7, 0)), some (vI ((nI i6) + (1 : Int32))), some (vI (loadS S (nI i6))), some (vI (cntOL S (nI i6) (sz S 2))), some (vI (firstF S (nI i6) (sz S 2) 0)), some (vI (rA S i6)), some (vI (rB S i6))]) (st' := []) (B' := putB 7 (rt4 (mnF (rA S) (i6 + 1)) (mxF (rA S) (i6 + 1)) (mnF (rB S) (i6 + 1)) (mxF (rB S) (i6 + 1))) B) [(259, .iinc 2 1), (262, .goto (-256))] (by decide +kernel) rfl rfl ?_
                              exact l_sub (loc' := [some (vR (7, 0, 0)), some (vR (9, 7, 0)), some (vI (nI (i6 + 1))), none, none, none, none, none]) ⟨Or.inr rfl, ⟨Or.inr rfl, ⟨Or.inr (congrArg (fun z => some (vI z)) (nI_1 _).symm), ⟨Or.inl rfl, ⟨Or.inl rfl, ⟨Or.inl rfl, ⟨Or.inl rfl, ⟨Or.inl rfl, trivial⟩⟩⟩⟩⟩⟩⟩⟩ (ih6 (i6 + 1) (by omega) (by omega))
                            refine l_if_eq (off := 11) (tgt := 250) (by decide +kernel) (by decide) (fun zc239 => ?_) (fun zc239 => ?_)
                            · refine l_blk (pc' := 258) (loc' := [some (vR (7, 0, 0)), some (vR (9, 7, 0)), some (vI (nI i6)), some (vI (loadS S (nI i6))), some (vI (cntOL S (nI i6) (sz S 2))), some (vI (firstF S (nI i6) (sz S 2) 0)), some (vI (rA S i6)), some (vI (rB S i6))]) (st' := [vI (rB S i6), vI (3 : Int32), vR (9, 7, 0)]) (B' := putB 7 (rt4 (mnF (rA S) (i6 + 1)) (mxF (rA S) (i6 + 1)) (mnF (rB S) (i6 + 1)) (mxF (rB S) i6)) B) [(250, .iload 7), (252, .goto 6)] (by decide +kernel) rfl rfl ?_
                              exact l_st ((mxF_0 (by omega) zc239).symm) hm239
                            · refine l_blk (pc' := 246) (loc' := [some (vR (7, 0, 0)), some (vR (9, 7, 0)), some (vI (nI i6)), some (vI (loadS S (nI i6))), some (vI (cntOL S (nI i6) (sz S 2))), some (vI (firstF S (nI i6) (sz S 2) 0)), some (vI (rA S i6)), some (vI (rB S i6))]) (st' := [vI (3 : Int32), vR (9, 7, 0), vI (rB S i6), vI (3 : Int32), vR (9, 7, 0)]) (B' := putB 7 (rt4 (mnF (rA S) (i6 + 1)) (mxF (rA S) (i6 + 1)) (mnF (rB S) (i6 + 1)) (mxF (rB S) i6)) B) [(242, .iload 7), (244, .aload_n 1), (245, .iconst 3)] (by decide +kernel) rfl rfl ?_
                              refine l_ald 7 (i := 3) (v := mxF (rB S) i6) (by decide) (show 3 < 4 by omega) (rfl) (by decide +kernel) ?_
                              refine l_icmp_le (off := 8) (tgt := 255) (by decide +kernel) (by decide) (fun zc247 => ?_) (fun zc247 => ?_)
                              · refine l_blk (pc' := 257) (loc' := [some (vR (7, 0, 0)), some (vR (9, 7, 0)), some (vI (nI i6)), some (vI (loadS S (nI i6))), some (vI (cntOL S (nI i6) (sz S 2))), some (vI (firstF S (nI i6) (sz S 2) 0)), some (vI (rA S i6)), some (vI (rB S i6))]) (st' := [vI (3 : Int32), vR (9, 7, 0), vI (3 : Int32), vR (9, 7, 0)]) (B' := putB 7 (rt4 (mnF (rA S) (i6 + 1)) (mxF (rA S) (i6 + 1)) (mnF (rB S) (i6 + 1)) (mxF (rB S) i6)) B) [(255, .aload_n 1), (256, .iconst 3)] (by decide +kernel) rfl rfl ?_
                                refine l_ald 7 (i := 3) (v := mxF (rB S) i6) (by decide) (show 3 < 4 by omega) (rfl) (by decide +kernel) ?_
                                exact l_st ((mxF_k (by omega) zc239 zc247).symm) hm239
                              · refine l_blk (pc' := 258) (loc' := [some (vR (7, 0, 0)), some (vR (9, 7, 0)), some (vI (nI i6)), some (vI (loadS S (nI i6))), some (vI (cntOL S (nI i6) (sz S 2))), some (vI (firstF S (nI i6) (sz S 2) 0)), some (vI (rA S i6)), some (vI (rB S i6))]) (st' := [vI (rB S i6), vI (3 : Int32), vR (9, 7, 0)]) (B' := putB 7 (rt4 (mnF (rA S) (i6 + 1)) (mxF (rA S) (i6 + 1)) (mnF (rB S) (i6 + 1)) (mxF (rB S) i6)) B) [(250, .iload 7), (252, .goto 6)] (by decide +kernel) rfl rfl ?_
                                exact l_st ((mxF_n (by omega) zc239 zc247).symm) hm239
                          refine l_if_eq (off := 11) (tgt := 227) (by decide +kernel) (by decide) (fun zc216 => ?_) (fun zc216 => ?_)
                          · refine l_blk (pc' := 235) (loc' := [some (vR (7, 0, 0)), some (vR (9, 7, 0)), some (vI (nI i6)), some (vI (loadS S (nI i6))), some (vI (cntOL S (nI i6) (sz S 2))), some (vI (firstF S (nI i6) (sz S 2) 0)), some (vI (rA S i6)), some (vI (rB S i6))]) (st' := [vI (rB S i6), vI (2 : Int32), vR (9, 7, 0)]) (B' := putB 7 (rt4 (mnF (rA S) (i6 + 1)) (mxF (rA S) (i6 + 1)) (mnF (rB S) i6) (mxF (rB S) i6)) B) [(227, .iload 7), (229, .goto 6)] (by decide +kernel) rfl rfl ?_
                            exact l_st ((mnF_0 (by omega) zc216).symm) hm216
                          · refine l_blk (pc' := 223) (loc' := [some (vR (7, 0, 0)), some (vR (9, 7, 0)), some (vI (nI i6)), some (vI (loadS S (nI i6))), some (vI (cntOL S (nI i6) (sz S 2))), some (vI (firstF S (nI i6) (sz S 2) 0)), some (vI (rA S i6)), some (vI (rB S i6))]) (st' := [vI (2 : Int32), vR (9, 7, 0), vI (rB S i6), vI (2 : Int32), vR (9, 7, 0)]) (B' := putB 7 (rt4 (mnF (rA S) (i6 + 1)) (mxF (rA S) (i6 + 1)) (mnF (rB S) i6) (mxF (rB S) i6)) B) [(219, .iload 7), (221, .aload_n 1), (222, .iconst 2)] (by decide +kernel) rfl rfl ?_
                            refine l_ald 7 (i := 2) (v := mnF (rB S) i6) (by decide) (show 2 < 4 by omega) (rfl) (by decide +kernel) ?_
                            refine l_icmp_ge (off := 8) (tgt := 232) (by decide +kernel) (by decide) (fun zc224 => ?_) (fun zc224 => ?_)
                            · refine l_blk (pc' := 234) (loc' := [some (vR (7, 0, 0)), some (vR (9, 7, 0)), some (vI (nI i6)), some (vI (loadS S (nI i6))), some (vI (cntOL S (nI i6) (sz S 2))), some (vI (firstF S (nI i6) (sz S 2) 0)), some (vI (rA S i6)), some (vI (rB S i6))]) (st' := [vI (2 : Int32), vR (9, 7, 0), vI (2 : Int32), vR (9, 7, 0)]) (B' := putB 7 (rt4 (mnF (rA S) (i6 + 1)) (mxF (rA S) (i6 + 1)) (mnF (rB S) i6) (mxF (rB S) i6)) B) [(232, .aload_n 1), (233, .iconst 2)] (by decide +kernel) rfl rfl ?_
                              refine l_ald 7 (i := 2) (v := mnF (rB S) i6) (by decide) (show 2 < 4 by omega) (rfl) (by decide +kernel) ?_
                              exact l_st ((mnF_k (by omega) zc216 zc224).symm) hm216
                            · refine l_blk (pc' := 235) (loc' := [some (vR (7, 0, 0)), some (vR (9, 7, 0)), some (vI (nI i6)), some (vI (loadS S (nI i6))), some (vI (cntOL S (nI i6) (sz S 2))), some (vI (firstF S (nI i6) (sz S 2) 0)), some (vI (rA S i6)), some (vI (rB S i6))]) (st' := [vI (rB S i6), vI (2 : Int32), vR (9, 7, 0)]) (B' := putB 7 (rt4 (mnF (rA S) (i6 + 1)) (mxF (rA S) (i6 + 1)) (mnF (rB S) i6) (mxF (rB S) i6)) B) [(227, .iload 7), (229, .goto 6)] (by decide +kernel) rfl rfl ?_
                              exact l_st ((mnF_n (by omega) zc216 zc224).symm) hm216
                        refine l_if_eq (off := 11) (tgt := 204) (by decide +kernel) (by decide) (fun zc193 => ?_) (fun zc193 => ?_)
                        · refine l_blk (pc' := 212) (loc' := [some (vR (7, 0, 0)), some (vR (9, 7, 0)), some (vI (nI i6)), some (vI (loadS S (nI i6))), some (vI (cntOL S (nI i6) (sz S 2))), some (vI (firstF S (nI i6) (sz S 2) 0)), some (vI (rA S i6)), some (vI (rB S i6))]) (st' := [vI (rA S i6), vI (1 : Int32), vR (9, 7, 0)]) (B' := putB 7 (rt4 (mnF (rA S) (i6 + 1)) (mxF (rA S) i6) (mnF (rB S) i6) (mxF (rB S) i6)) B) [(204, .iload 6), (206, .goto 6)] (by decide +kernel) rfl rfl ?_
                          exact l_st ((mxF_0 (by omega) zc193).symm) hm193
                        · refine l_blk (pc' := 200) (loc' := [some (vR (7, 0, 0)), some (vR (9, 7, 0)), some (vI (nI i6)), some (vI (loadS S (nI i6))), some (vI (cntOL S (nI i6) (sz S 2))), some (vI (firstF S (nI i6) (sz S 2) 0)), some (vI (rA S i6)), some (vI (rB S i6))]) (st' := [vI (1 : Int32), vR (9, 7, 0), vI (rA S i6), vI (1 : Int32), vR (9, 7, 0)]) (B' := putB 7 (rt4 (mnF (rA S) (i6 + 1)) (mxF (rA S) i6) (mnF (rB S) i6) (mxF (rB S) i6)) B) [(196, .iload 6), (198, .aload_n 1), (199, .iconst 1)] (by decide +kernel) rfl rfl ?_
                          refine l_ald 7 (i := 1) (v := mxF (rA S) i6) (by decide) (show 1 < 4 by omega) (rfl) (by decide +kernel) ?_
                          refine l_icmp_le (off := 8) (tgt := 209) (by decide +kernel) (by decide) (fun zc201 => ?_) (fun zc201 => ?_)
                          · refine l_blk (pc' := 211) (loc' := [some (vR (7, 0, 0)), some (vR (9, 7, 0)), some (vI (nI i6)), some (vI (loadS S (nI i6))), some (vI (cntOL S (nI i6) (sz S 2))), some (vI (firstF S (nI i6) (sz S 2) 0)), some (vI (rA S i6)), some (vI (rB S i6))]) (st' := [vI (1 : Int32), vR (9, 7, 0), vI (1 : Int32), vR (9, 7, 0)]) (B' := putB 7 (rt4 (mnF (rA S) (i6 + 1)) (mxF (rA S) i6) (mnF (rB S) i6) (mxF (rB S) i6)) B) [(209, .aload_n 1), (210, .iconst 1)] (by decide +kernel) rfl rfl ?_
                            refine l_ald 7 (i := 1) (v := mxF (rA S) i6) (by decide) (show 1 < 4 by omega) (rfl) (by decide +kernel) ?_
                            exact l_st ((mxF_k (by omega) zc193 zc201).symm) hm193
                          · refine l_blk (pc' := 212) (loc' := [some (vR (7, 0, 0)), some (vR (9, 7, 0)), some (vI (nI i6)), some (vI (loadS S (nI i6))), some (vI (cntOL S (nI i6) (sz S 2))), some (vI (firstF S (nI i6) (sz S 2) 0)), some (vI (rA S i6)), some (vI (rB S i6))]) (st' := [vI (rA S i6), vI (1 : Int32), vR (9, 7, 0)]) (B' := putB 7 (rt4 (mnF (rA S) (i6 + 1)) (mxF (rA S) i6) (mnF (rB S) i6) (mxF (rB S) i6)) B) [(204, .iload 6), (206, .goto 6)] (by decide +kernel) rfl rfl ?_
                            exact l_st ((mxF_n (by omega) zc193 zc201).symm) hm193
                      refine l_if_eq (off := 11) (tgt := 181) (by decide +kernel) (by decide) (fun zc170 => ?_) (fun zc170 => ?_)
                      · refine l_blk (pc' := 189) (loc' := [some (vR (7, 0, 0)), some (vR (9, 7, 0)), some (vI (nI i6)), some (vI (loadS S (nI i6))), some (vI (cntOL S (nI i6) (sz S 2))), some (vI (firstF S (nI i6) (sz S 2) 0)), some (vI (rA S i6)), some (vI (rB S i6))]) (st' := [vI (rA S i6), vI (0 : Int32), vR (9, 7, 0)]) (B' := putB 7 (rt4 (mnF (rA S) i6) (mxF (rA S) i6) (mnF (rB S) i6) (mxF (rB S) i6)) B) [(181, .iload 6), (183, .goto 6)] (by decide +kernel) rfl rfl ?_
                        exact l_st ((mnF_0 (by omega) zc170).symm) hm170
                      · refine l_blk (pc' := 177) (loc' := [some (vR (7, 0, 0)), some (vR (9, 7, 0)), some (vI (nI i6)), some (vI (loadS S (nI i6))), some (vI (cntOL S (nI i6) (sz S 2))), some (vI (firstF S (nI i6) (sz S 2) 0)), some (vI (rA S i6)), some (vI (rB S i6))]) (st' := [vI (0 : Int32), vR (9, 7, 0), vI (rA S i6), vI (0 : Int32), vR (9, 7, 0)]) (B' := putB 7 (rt4 (mnF (rA S) i6) (mxF (rA S) i6) (mnF (rB S) i6) (mxF (rB S) i6)) B) [(173, .iload 6), (175, .aload_n 1), (176, .iconst 0)] (by decide +kernel) rfl rfl ?_
                        refine l_ald 7 (i := 0) (v := mnF (rA S) i6) (by decide) (show 0 < 4 by omega) (rfl) (by decide +kernel) ?_
                        refine l_icmp_ge (off := 8) (tgt := 186) (by decide +kernel) (by decide) (fun zc178 => ?_) (fun zc178 => ?_)
                        · refine l_blk (pc' := 188) (loc' := [some (vR (7, 0, 0)), some (vR (9, 7, 0)), some (vI (nI i6)), some (vI (loadS S (nI i6))), some (vI (cntOL S (nI i6) (sz S 2))), some (vI (firstF S (nI i6) (sz S 2) 0)), some (vI (rA S i6)), some (vI (rB S i6))]) (st' := [vI (0 : Int32), vR (9, 7, 0), vI (0 : Int32), vR (9, 7, 0)]) (B' := putB 7 (rt4 (mnF (rA S) i6) (mxF (rA S) i6) (mnF (rB S) i6) (mxF (rB S) i6)) B) [(186, .aload_n 1), (187, .iconst 0)] (by decide +kernel) rfl rfl ?_
                          refine l_ald 7 (i := 0) (v := mnF (rA S) i6) (by decide) (show 0 < 4 by omega) (rfl) (by decide +kernel) ?_
                          exact l_st ((mnF_k (by omega) zc170 zc178).symm) hm170
                        · refine l_blk (pc' := 189) (loc' := [some (vR (7, 0, 0)), some (vR (9, 7, 0)), some (vI (nI i6)), some (vI (loadS S (nI i6))), some (vI (cntOL S (nI i6) (sz S 2))), some (vI (firstF S (nI i6) (sz S 2) 0)), some (vI (rA S i6)), some (vI (rB S i6))]) (st' := [vI (rA S i6), vI (0 : Int32), vR (9, 7, 0)]) (B' := putB 7 (rt4 (mnF (rA S) i6) (mxF (rA S) i6) (mnF (rB S) i6) (mxF (rB S) i6)) B) [(181, .iload 6), (183, .goto 6)] (by decide +kernel) rfl rfl ?_
                          exact l_st ((mnF_n (by omega) zc170 zc178).symm) hm170
                    · exact absurd rfl zc162
            · have ht38 := dn_lt (by omega) (by omega) zc40
              refine l_eq (loc' := [some (vR (7, 0, 0)), some (vR (9, 7, 0)), some (vI (nI i6)), some (vI ((sfA S i6 (sz S 2) i38).1)), some (vI ((sfA S i6 (sz S 2) i38).2.1)), some (vI ((sfA S i6 (sz S 2) i38).2.2)), some (vI (nI (sz S 2 - (i38 + 1)))), none]) rfl (by rw [ht38.2]) rfl rfl rfl ?_
              refine l_blk (pc' := 47) (loc' := [some (vR (7, 0, 0)), some (vR (9, 7, 0)), some (vI (nI i6)), some (vI ((sfA S i6 (sz S 2) i38).1)), some (vI ((sfA S i6 (sz S 2) i38).2.1)), some (vI ((sfA S i6 (sz S 2) i38).2.2)), some (vI (nI (sz S 2 - (i38 + 1)))), none]) (st' := [vI (1 : Int32), vI (nI (sz S 2 - (i38 + 1))), vR (7, 0, 0)]) (B' := putB 7 (rt4 (mnF (rA S) i6) (mxF (rA S) i6) (mnF (rB S) i6) (mxF (rB S) i6)) B) [(43, .aload_n 0), (44, .iload 6), (46, .iconst 1)] (by decide +kernel) rfl rfl ?_
              refine l_callV (ce S 2 (sz S 2 - (i38 + 1)) 1) ((S, (Hs, P)) : XS) [vI (nI (sz S 2 - (i38 + 1))), vI (1 : Int32)] [] vl_RL_107 mi_X4_task (k_task l (r_task1 hB (show sz S 2 - (i38 + 1) < sz S 2 by omega))) rfl rfl rfl ⟨Nat.le_of_ble_eq_true rfl, Nat.le_of_ble_eq_true rfl⟩ rfl (Nat.le_of_ble_eq_true rfl) ⟨Nat.le_of_ble_eq_true rfl, Nat.le_of_ble_eq_true rfl⟩ (by decide +kernel) ?_
              refine l_blk (pc' := 51) (loc' := [some (vR (7, 0, 0)), some (vR (9, 7, 0)), some (vI (nI i6)), some (vI ((sfA S i6 (sz S 2) i38).1)), some (vI ((sfA S i6 (sz S 2) i38).2.1)), some (vI ((sfA S i6 (sz S 2) i38).2.2)), some (vI (nI (sz S 2 - (i38 + 1)))), none]) (st' := [vI (nI i6), vI (ce S 2 (sz S 2 - (i38 + 1)) 1)]) (B' := putB 7 (rt4 (mnF (rA S) i6) (mxF (rA S) i6) (mnF (rB S) i6) (mxF (rB S) i6)) B) [(50, .iload_n 2)] (by decide +kernel) rfl rfl ?_
              refine l_icmp_ne (off := 30) (tgt := 81) (by decide +kernel) (by decide) (fun zc51 => ?_) (fun zc51 => ?_)
              · refine l_blk (pc' := 38) (loc' := [some (vR (7, 0, 0)), some (vR (9, 7, 0)), some (vI (nI i6)), some (vI ((sfA S i6 (sz S 2) i38).1)), some (vI ((sfA S i6 (sz S 2) i38).2.1)), some (vI ((sfA S i6 (sz S 2) i38).2.2)), some (vI ((nI (sz S 2 - (i38 + 1))) + (-1 : Int32))), none]) (st' := []) (B' := putB 7 (rt4 (mnF (rA S) i6) (mxF (rA S) i6) (mnF (rB S) i6) (mxF (rB S) i6)) B) [(81, .iinc 6 (-1)), (84, .goto (-46))] (by decide +kernel) rfl rfl ?_
                exact l_sub (loc' := [some (vR (7, 0, 0)), some (vR (9, 7, 0)), some (vI (nI i6)), some (vI ((sfA S i6 (sz S 2) (i38 + 1)).1)), some (vI ((sfA S i6 (sz S 2) (i38 + 1)).2.1)), some (vI ((sfA S i6 (sz S 2) (i38 + 1)).2.2)), some (vI (dn (sz S 2) (i38 + 1))), none]) ⟨Or.inr rfl, ⟨Or.inr rfl, ⟨Or.inr rfl, ⟨Or.inr (congrArg (fun z => some (vI z)) (congrArg (fun z => z.1) (sf_n1 zc51))), ⟨Or.inr (congrArg (fun z => some (vI z)) (congrArg (fun z => z.2.1) (sf_n1 zc51))), ⟨Or.inr (congrArg (fun z => some (vI z)) (congrArg (fun z => z.2.2) (sf_n1 zc51))), ⟨Or.inr (congrArg (fun z => some (vI z)) (dn_s ht38.1)), ⟨Or.inr rfl, trivial⟩⟩⟩⟩⟩⟩⟩⟩ (ih38 (i38 + 1) (by omega) (by omega))
              · refine l_blk (pc' := 58) (loc' := [some (vR (7, 0, 0)), some (vR (9, 7, 0)), some (vI (nI i6)), some (vI ((sfA S i6 (sz S 2) i38).1)), some (vI ((sfA S i6 (sz S 2) i38).2.1)), some (vI ((sfA S i6 (sz S 2) i38).2.2)), some (vI (nI (sz S 2 - (i38 + 1)))), none]) (st' := [vI (3 : Int32), vI (nI (sz S 2 - (i38 + 1))), vR (7, 0, 0)]) (B' := putB 7 (rt4 (mnF (rA S) i6) (mxF (rA S) i6) (mnF (rB S) i6) (mxF (rB S) i6)) B) [(54, .aload_n 0), (55, .iload 6), (57, .iconst 3)] (by decide +kernel) rfl rfl ?_
                refine l_callV (ce S 2 (sz S 2 - (i38 + 1)) 3) ((S, (Hs, P)) : XS) [vI (nI (sz S 2 - (i38 + 1))), vI (3 : Int32)] [] vl_RL_107 mi_X4_task (k_task l (r_task3 hB (show sz S 2 - (i38 + 1) < sz S 2 by omega))) rfl rfl rfl ⟨Nat.le_of_ble_eq_true rfl, Nat.le_of_ble_eq_true rfl⟩ rfl (Nat.le_of_ble_eq_true rfl) ⟨Nat.le_of_ble_eq_true rfl, Nat.le_of_ble_eq_true rfl⟩ (by decide +kernel) ?_
                refine l_if_ne (off := 20) (tgt := 81) (by decide +kernel) (by decide) (fun zc61 => ?_) (fun zc61 => ?_)
                · refine l_blk (pc' := 38) (loc' := [some (vR (7, 0, 0)), some (vR (9, 7, 0)), some (vI (nI i6)), some (vI ((sfA S i6 (sz S 2) i38).1)), some (vI ((sfA S i6 (sz S 2) i38).2.1)), some (vI ((sfA S i6 (sz S 2) i38).2.2)), some (vI ((nI (sz S 2 - (i38 + 1))) + (-1 : Int32))), none]) (st' := []) (B' := putB 7 (rt4 (mnF (rA S) i6) (mxF (rA S) i6) (mnF (rB S) i6) (mxF (rB S) i6)) B) [(81, .iinc 6 (-1)), (84, .goto (-46))] (by decide +kernel) rfl rfl ?_
                  exact l_sub (loc' := [some (vR (7, 0, 0)), some (vR (9, 7, 0)), some (vI (nI i6)), some (vI ((sfA S i6 (sz S 2) (i38 + 1)).1)), some (vI ((sfA S i6 (sz S 2) (i38 + 1)).2.1)), some (vI ((sfA S i6 (sz S 2) (i38 + 1)).2.2)), some (vI (dn (sz S 2) (i38 + 1))), none]) ⟨Or.inr rfl, ⟨Or.inr rfl, ⟨Or.inr rfl, ⟨Or.inr (congrArg (fun z => some (vI z)) (congrArg (fun z => z.1) (sf_n2 zc51 zc61))), ⟨Or.inr (congrArg (fun z => some (vI z)) (congrArg (fun z => z.2.1) (sf_n2 zc51 zc61))), ⟨Or.inr (congrArg (fun z => some (vI z)) (congrArg (fun z => z.2.2) (sf_n2 zc51 zc61))), ⟨Or.inr (congrArg (fun z => some (vI z)) (dn_s ht38.1)), ⟨Or.inr rfl, trivial⟩⟩⟩⟩⟩⟩⟩⟩ (ih38 (i38 + 1) (by omega) (by omega))
                · refine l_blk (pc' := 69) (loc' := [some (vR (7, 0, 0)), some (vR (9, 7, 0)), some (vI (nI i6)), some (vI ((sfA S i6 (sz S 2) i38).1)), some (vI ((sfA S i6 (sz S 2) i38).2.1)), some (vI ((sfA S i6 (sz S 2) i38).2.2)), some (vI (nI (sz S 2 - (i38 + 1)))), none]) (st' := [vI (2 : Int32), vI (nI (sz S 2 - (i38 + 1))), vR (7, 0, 0), vI ((sfA S i6 (sz S 2) i38).1)]) (B' := putB 7 (rt4 (mnF (rA S) i6) (mxF (rA S) i6) (mnF (rB S) i6) (mxF (rB S) i6)) B) [(64, .iload_n 3), (65, .aload_n 0), (66, .iload 6), (68, .iconst 2)] (by decide +kernel) rfl rfl ?_
                  refine l_callV (ce S 2 (sz S 2 - (i38 + 1)) 2) ((S, (Hs, P)) : XS) [vI (nI (sz S 2 - (i38 + 1))), vI (2 : Int32)] [vI ((sfA S i6 (sz S 2) i38).1)] vl_RL_107 mi_X4_task (k_task l (r_task2 hB (show sz S 2 - (i38 + 1) < sz S 2 by omega))) rfl rfl rfl ⟨Nat.le_of_ble_eq_true rfl, Nat.le_of_ble_eq_true rfl⟩ rfl (Nat.le_of_ble_eq_true rfl) ⟨Nat.le_of_ble_eq_true rfl, Nat.le_of_ble_eq_true rfl⟩ (by decide +kernel) ?_
                  refine l_blk (pc' := 38) (loc' := [some (vR (7, 0, 0)), some (vR (9, 7, 0)), some (vI (nI i6)), some (vI (((sfA S i6 (sz S 2) i38).1) + (ce S 2 (sz S 2 - (i38 + 1)) 2))), some (vI (((sfA S i6 (sz S 2) i38).2.1) + (1 : Int32))), some (vI (nI (sz S 2 - (i38 + 1)))), some (vI ((nI (sz S 2 - (i38 + 1))) + (-1 : Int32))), none]) (st' := []) (B' := putB 7 (rt4 (mnF (rA S) i6) (mxF (rA S) i6) (mnF (rB S) i6) (mxF (rB S) i6)) B) [(72, .iadd), (73, .istore_n 3), (74, .iinc 4 1), (77, .iload 6), (79, .istore 5), (81, .iinc 6 (-1)), (84, .goto (-46))] (by decide +kernel) rfl rfl ?_
                  exact l_sub (loc' := [some (vR (7, 0, 0)), some (vR (9, 7, 0)), some (vI (nI i6)), some (vI ((sfA S i6 (sz S 2) (i38 + 1)).1)), some (vI ((sfA S i6 (sz S 2) (i38 + 1)).2.1)), some (vI ((sfA S i6 (sz S 2) (i38 + 1)).2.2)), some (vI (dn (sz S 2) (i38 + 1))), none]) ⟨Or.inr rfl, ⟨Or.inr rfl, ⟨Or.inr rfl, ⟨Or.inr (congrArg (fun z => some (vI z)) (congrArg (fun z => z.1) (sf_y zc51 zc61))), ⟨Or.inr (congrArg (fun z => some (vI z)) (congrArg (fun z => z.2.1) (sf_y zc51 zc61))), ⟨Or.inr (congrArg (fun z => some (vI z)) (congrArg (fun z => z.2.2) (sf_y zc51 zc61))), ⟨Or.inr (congrArg (fun z => some (vI z)) (dn_s ht38.1)), ⟨Or.inr rfl, trivial⟩⟩⟩⟩⟩⟩⟩⟩ (ih38 (i38 + 1) (by omega) (by omega))
        exact l_sub (loc' := [some (vR (7, 0, 0)), some (vR (9, 7, 0)), some (vI (nI i6)), some (vI ((sfA S i6 (sz S 2) 0).1)), some (vI ((sfA S i6 (sz S 2) 0).2.1)), some (vI ((sfA S i6 (sz S 2) 0).2.2)), some (vI (dn (sz S 2) 0)), none]) ⟨Or.inr rfl, ⟨Or.inr rfl, ⟨Or.inr rfl, ⟨Or.inr rfl, ⟨Or.inr rfl, ⟨Or.inr rfl, ⟨Or.inr rfl, ⟨Or.inr rfl, trivial⟩⟩⟩⟩⟩⟩⟩⟩ (lp38 (sz S 2 + 1) 0 (by omega) (by omega))
  refine l_eq (B' := putB 7 (rt4 (mnF (rA S) 0) (mxF (rA S) 0) (mnF (rB S) 0) (mxF (rB S) 0)) B) rfl rfl rfl (putB_c (rt4_0) (rfl)) rfl ?_
  exact l_sub (loc' := [some (vR (7, 0, 0)), some (vR (9, 7, 0)), some (vI (nI 0)), none, none, none, none, none]) ⟨Or.inr rfl, ⟨Or.inr rfl, ⟨Or.inr rfl, ⟨Or.inr rfl, ⟨Or.inr rfl, ⟨Or.inr rfl, ⟨Or.inr rfl, ⟨Or.inr rfl, trivial⟩⟩⟩⟩⟩⟩⟩⟩ (lp6 (sz S 0 + 1) 0 (by omega) (by omega))
