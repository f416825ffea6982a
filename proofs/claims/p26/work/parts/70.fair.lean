/-! fair() of the law -/
def inG (S : HA) (a : Nat) (p : P3) : Nat → P3
  | 0 => p
  | b + 1 => if b ≤ a then p else frStep S a b (inG S a p b)
def outF (S : HA) : Nat → P3
  | 0 => (-6, (-6, spreadS S 1 (-6) (-6) 0))
  | a + 1 => inG S a (outF S a) (sz S 2)
theorem in_0 {S : HA} {a : Nat} {p : P3} : inG S a p (a + 1) = p := if_pos (Nat.le_refl a)
theorem in_s {S : HA} {a b : Nat} {p : P3} (h : a < b) : inG S a p (b + 1) = frStep S a b (inG S a p b) := if_neg (by omega)
theorem fr_in {S : HA} {a n : Nat} {p : P3} : ∀ k b, b + k = n → a < b → frI S a k b (inG S a p b) = inG S a p n
  | 0, b, h, _ => by rw [frI, show b = n by omega]
  | k + 1, b, h, hb => by rw [frI, ← in_s hb, fr_in (n := n) k (b + 1) (by omega) (by omega)]
theorem fr_out {S : HA} : ∀ k a, a + k = sz S 2 → frO S (sz S 2) k a (outF S a) = outF S (sz S 2)
  | 0, a, h => by rw [frO, show a = sz S 2 by omega]
  | k + 1, a, h => by
    have e := fr_in (S := S) (a := a) (n := sz S 2) (p := outF S a) (sz S 2 - (a + 1)) (a + 1) (by omega) (by omega)
    rw [in_0] at e
    rw [frO, e]
    exact fr_out k (a + 1) (by omega)
theorem fr_all {S : HA} : frS S = outF S (sz S 2) := fr_out (sz S 2) 0 (by omega)
theorem in_skip {S : HA} {a b : Nat} {p : P3} (h : a < b) (hc : canS S (nI a) (nI b) = 0) : inG S a p (b + 1) = inG S a p b := by
  rw [in_s h, frStep, if_pos hc, if_pos (Int32.le_refl _)]
theorem in_keep {S : HA} {a b : Nat} {p : P3} {D : Int32} (h : a < b) (hc : ¬ canS S (nI a) (nI b) = 0) (hD : spreadIfS S (nI a) (nI b) = D) (hl : (inG S a p b).2.2 ≤ D) : inG S a p (b + 1) = inG S a p b := by
  rw [in_s h, frStep, if_neg hc, hD, if_pos hl]
theorem in_new {S : HA} {a b : Nat} {p : P3} {D : Int32} (h : a < b) (hc : ¬ canS S (nI a) (nI b) = 0) (hD : spreadIfS S (nI a) (nI b) = D) (hl : ¬ (inG S a p b).2.2 ≤ D) : inG S a p (b + 1) = (nI a, (nI b, D)) := by
  rw [in_s h, frStep, if_neg hc, hD, if_neg hl]
def ok3 (p : P3) : Prop := (p.1 = -6 ∧ p.2.1 = -6) ∨ ∃ a, a < 2 ^ 31 ∧ p.1 = nI a
theorem ok_step {S : HA} {a b : Nat} {p : P3} (ha : a < 2 ^ 31) (h : ok3 p) : ok3 (frStep S a b p) := by
  unfold frStep
  by_cases q : p.2.2 ≤ (if canS S (nI a) (nI b) = 0 then p.2.2 else spreadIfS S (nI a) (nI b))
  · rw [if_pos q]; exact h
  · rw [if_neg q]; exact Or.inr ⟨a, ha, rfl⟩
theorem ok_in {S : HA} {a : Nat} {p : P3} (ha : a < 2 ^ 31) (h : ok3 p) : ∀ b, ok3 (inG S a p b)
  | 0 => h
  | b + 1 => by
    rw [inG]
    split
    · exact h
    · exact ok_step ha (ok_in ha h b)
theorem ok_out {S : HA} : ∀ a, a < 2 ^ 31 → ok3 (outF S a)
  | 0, _ => Or.inl ⟨rfl, rfl⟩
  | a + 1, h => ok_in (by omega) (ok_out a (by omega)) _
theorem ne6 {a : Nat} (h : a < 2 ^ 31) : ¬ nI a = -6 := nI_6 h
theorem fa_0 {S : HA} (hB : EB S) : xfairer S 0 = (outF S (sz S 2)).1 := by
  rw [xfairer, if_pos (by decide), fr_all]
  by_cases q : (outF S (sz S 2)).1 = -6
  · rw [if_neg (not_not_intro q), q]
  · rw [if_pos q, if_pos rfl]
theorem fa_1 {S : HA} (hB : EB S) : xfairer S 1 = (outF S (sz S 2)).2.1 := by
  have hb := eb31 hB
  rw [xfairer, if_pos (by decide), fr_all]
  rcases ok_out (S := S) (sz S 2) (by omega) with ⟨h1, h2⟩ | ⟨a, ha, h1⟩
  · rw [if_neg (not_not_intro h1), h2]
  · rw [if_pos (by rw [h1]; exact ne6 ha), if_neg (by decide), if_pos rfl]
theorem fa_2 {S : HA} (hB : EB S) : xfairer S 2 = if 0 ≤ (outF S (sz S 2)).1 then (outF S (sz S 2)).2.2 else -6 := by
  have hb := eb31 hB
  rw [xfairer, if_pos (by decide), fr_all]
  rcases ok_out (S := S) (sz S 2) (by omega) with ⟨h1, h2⟩ | ⟨a, ha, h1⟩
  · rw [if_neg (not_not_intro h1), h1, if_neg (by decide)]
  · rw [if_pos (by rw [h1]; exact ne6 ha), if_neg (by decide), if_neg (by decide), if_pos (by rw [h1]; exact nI_pos' ha)]
theorem can_z {S : HA} {a b : Nat} (hB : EB S) (ha : a < sz S 2) (hb : b < sz S 2) (h : ce S 2 a 3 = 1 ∨ ce S 2 b 3 = 1 ∨ ce S 2 a 1 = ce S 2 b 1) : canS S (nI a) (nI b) = 0 := by
  have h31 := eb31 hB
  rw [canS, open_n (by omega) ha, open_n (by omega) hb, cl1 (by omega), cl1 (by omega)]
  by_cases q1 : ce S 2 a 3 = 0
  · by_cases q2 : ce S 2 b 3 = 0
    · have h3 : ce S 2 a 1 = ce S 2 b 1 := by
        rcases h with h | h | h
        · rw [q1] at h; exact absurd h (by decide)
        · rw [q2] at h; exact absurd h (by decide)
        · exact h
      rw [if_pos q1, if_pos q2, if_neg (by decide), if_neg (by decide), if_pos h3]
    · rw [if_pos q1, if_neg q2, if_neg (by decide), if_pos rfl]
  · rw [if_neg q1, if_pos rfl]
theorem can_o {S : HA} {n a b : Nat} (hB : EB S) (hV : V S n) (ha : a < sz S 2) (hb : b < sz S 2) (h1 : ¬ ce S 2 a 3 = 1) (h2 : ¬ ce S 2 b 3 = 1) (h3 : ¬ ce S 2 a 1 = ce S 2 b 1) : ¬ canS S (nI a) (nI b) = 0 := by
  have h31 := eb31 hB
  have o1 := (hV.2.2.2.1 a ha).2.2.2.1.resolve_right h1
  have o2 := (hV.2.2.2.1 b hb).2.2.2.1.resolve_right h2
  rw [canS, open_n (by omega) ha, open_n (by omega) hb, cl1 (by omega), cl1 (by omega), if_pos o1, if_pos o2, if_neg (by decide), if_neg (by decide), if_neg h3]
  decide
theorem can_open {S : HA} {n a b : Nat} (hV : V S n) (ha : a < sz S 2) (hb : b < sz S 2) (h : ¬ canS S (nI a) (nI b) = 0) : ce S 2 a 3 = 0 ∧ ce S 2 b 3 = 0 ∧ ¬ ce S 2 a 1 = ce S 2 b 1 := by
  have hB := hV.1.2.1
  refine ⟨?_, ?_, fun z => h (can_z hB ha hb (Or.inr (Or.inr z)))⟩
  · exact (hV.2.2.2.1 a ha).2.2.2.1.resolve_right (fun z => h (can_z hB ha hb (Or.inl z)))
  · exact (hV.2.2.2.1 b hb).2.2.2.1.resolve_right (fun z => h (can_z hB ha hb (Or.inr (Or.inl z))))
def chgS (S : HA) (a b r : Nat) : Int32 := if ¬ nI r = ce S 2 a 1 then (if ¬ nI r = ce S 2 b 1 then 0 else -(ce S 2 b 2 - ce S 2 a 2)) else ce S 2 b 2 - ce S 2 a 2
theorem chg_a {S : HA} {a b r : Nat} (h : nI r = ce S 2 a 1) : chgS S a b r = ce S 2 b 2 - ce S 2 a 2 := if_neg (not_not_intro h)
theorem chg_b {S : HA} {a b r : Nat} (h : ¬ nI r = ce S 2 a 1) (h2 : nI r = ce S 2 b 1) : chgS S a b r = -(ce S 2 b 2 - ce S 2 a 2) := (if_pos h).trans (if_neg (not_not_intro h2))
theorem chg_0 {S : HA} {a b r : Nat} (h : ¬ nI r = ce S 2 a 1) (h2 : ¬ nI r = ce S 2 b 1) : chgS S a b r = 0 := (if_pos h).trans (if_pos h2)
def rX (S : HA) (a b r : Nat) : Int32 := (1000 * (loadS S (nI r) + chgS S a b r)) / ce S 0 r 0
def lowF (R : Nat → Int32) : Nat → Int32
  | 0 => 1000000000
  | r + 1 => if lowF R r ≤ R r then lowF R r else R r
def highF (R : Nat → Int32) : Nat → Int32
  | 0 => 0
  | r + 1 => if R r ≤ highF R r then highF R r else R r
theorem low_k {R : Nat → Int32} {r : Nat} (h : lowF R r ≤ R r) : lowF R (r + 1) = lowF R r := if_pos h
theorem low_n {R : Nat → Int32} {r : Nat} (h : ¬ lowF R r ≤ R r) : lowF R (r + 1) = R r := if_neg h
theorem high_k {R : Nat → Int32} {r : Nat} (h : R r ≤ highF R r) : highF R (r + 1) = highF R r := if_pos h
theorem high_n {R : Nat → Int32} {r : Nat} (h : ¬ R r ≤ highF R r) : highF R (r + 1) = R r := if_neg h
theorem low_mn {R : Nat → Int32} : ∀ n, 0 < n → (∀ r, r < n → ¬ (1000000000 : Int32) ≤ R r) → lowF R n = mnF R n
  | 0, h, _ => absurd h (Nat.lt_irrefl 0)
  | n + 1, _, h => by
    rw [lowF, mnF]
    by_cases q : n = 0
    · subst q
      rw [if_pos rfl, show lowF R 0 = 1000000000 from rfl, if_neg (h 0 (by omega))]
    · rw [if_neg q, low_mn n (by omega) (fun r hr => h r (by omega))]
theorem high_mx {R : Nat → Int32} : ∀ n, 0 < n → (∀ r, r < n → ¬ R r < 0) → highF R n = mxF R n
  | 0, h, _ => absurd h (Nat.lt_irrefl 0)
  | n + 1, _, h => by
    rw [highF, mxF]
    by_cases q : n = 0
    · subst q
      rw [if_pos rfl, show highF R 0 = 0 from rfl]
      by_cases q2 : R 0 ≤ 0
      · rw [if_pos q2]
        exact Int32.le_antisymm (Int32.not_lt.mp (h 0 (by omega))) q2
      · rw [if_neg q2]
    · rw [if_neg q, high_mx n (by omega) (fun r hr => h r (by omega))]
-- the loads after an exchange
theorem amt_x {S : HA} {n a b r : Nat} (hV : V S n) (ha : a < sz S 2) (hb : b < sz S 2) (hao : ce S 2 a 3 = 0) (hbo : ce S 2 b 3 = 0) (hne : ¬ ce S 2 a 1 = ce S 2 b 1) (hr : r < sz S 0) : ∃ k, k ≤ n + 60 ∧ loadS S (nI r) + chgS S a b r = nI k := by
  obtain ⟨h8, h6, h12, hs6⟩ := hV.1.2.1
  obtain ⟨-, ⟨r1, hr1, hw1⟩, -⟩ := hV.2.2.2.1 a ha
  obtain ⟨-, ⟨r2, hr2, hw2⟩, -⟩ := hV.2.2.2.1 b hb
  have h12' : ¬ r2 = r1 := fun z => hne (by rw [hw1, hw2, z])
  have VX := v_accN hV ha hb hao hbo hr1 hr2 hw1 hw2
  have c0 : ∀ x c, c ≠ 6 → ce (accN S a b r1 r2 (ce S 2 b 2 - ce S 2 a 2)) 0 x c = ce S 0 x c := fun x c h => by rw [accN, ce_W_c h, ce_W_c h, exT, ce_W_ne (by decide), ce_W_ne (by decide)]
  have c6 : ∀ x, ce (accN S a b r1 r2 (ce S 2 b 2 - ce S 2 a 2)) 0 x 6 = if x = r2 then ce S 0 r2 6 + -(ce S 2 b 2 - ce S 2 a 2) else if x = r1 then ce S 0 r1 6 + (ce S 2 b 2 - ce S 2 a 2) else ce S 0 x 6 := fun x => by
    rw [accN, ce_W, ce_W, exT, ce_W_ne (by decide), ce_W_ne (by decide), if_neg h12']
    simp only [and_true]
  have s : sz (accN S a b r1 r2 (ce S 2 b 2 - ce S 2 a 2)) 0 = sz S 0 := by rw [accN, sz_W, sz_W, exT, sz_W, sz_W]
  obtain ⟨k, hk, hl⟩ := load_nn VX (r := r) (by rw [s]; exact hr)
  refine ⟨k, hk, ?_⟩
  have inj : ∀ y, y < sz S 0 → (nI r = nI y ↔ r = y) := fun y hy => nI_eq (by omega) (by omega)
  rw [← hl, loadS, loadS, cl3 (by omega), cl6 (by omega), cl3 (by omega), cl6 (by omega), c0 r 3 (by decide), c6, chgS, hw1, hw2]
  by_cases q1 : r = r1
  · rw [if_neg (not_not_intro ((inj r1 hr1).mpr q1)), if_neg (fun z => h12' (z.symm.trans q1)), if_pos q1, q1, Int32.add_assoc]
  · rw [if_pos (fun z => q1 ((inj r1 hr1).mp z))]
    by_cases q2 : r = r2
    · rw [if_neg (not_not_intro ((inj r2 hr2).mpr q2)), if_pos q2, q2, Int32.add_assoc]
    · rw [if_pos (fun z => q2 ((inj r2 hr2).mp z)), if_neg q2, if_neg q1, Int32.add_zero]
theorem fair_core {S : HA} {n a b : Nat} (hV : V S n) (hn : n ≤ 900000) (ha : a < sz S 2) (hb : b < sz S 2) (hc : ¬ canS S (nI a) (nI b) = 0) : 0 < sz S 0 ∧ (∀ r, r < sz S 0 → ¬ rX S a b r < 0 ∧ ¬ (1000000000 : Int32) ≤ rX S a b r) ∧ spreadIfS S (nI a) (nI b) = highF (rX S a b) (sz S 0) - lowF (rX S a b) (sz S 0) := by
  have hB := hV.1.2.1
  have h31 := eb31 hB
  obtain ⟨o1, o2, o3⟩ := can_open hV ha hb hc
  obtain ⟨-, ⟨r1, hr1, hw1⟩, -⟩ := hV.2.2.2.1 a ha
  have hr : ∀ r, r < sz S 0 → ∃ q, q < 1000000000 ∧ rX S a b r = nI q ∧ rateS S (nI r) (amountS S 1 (ce S 2 a 1) (ce S 2 b 1) (ce S 2 b 2 - ce S 2 a 2) (nI r)) = nI q := fun r hr => by
    obtain ⟨k, hk, he⟩ := amt_x hV ha hb o1 o2 o3 hr
    obtain ⟨w, h1, h2, h3⟩ := (hV.2.1 r hr).1
    have e : rX S a b r = nI (1000 * k / w) := by
      rw [rX, he, h3, show (1000 : Int32) = nI 1000 from rfl, pk_mul]
      exact pk_div (by omega) (by omega) (by omega)
    refine ⟨1000 * k / w, Nat.lt_of_le_of_lt (Nat.div_le_self _ _) (by omega), e, ?_⟩
    have ea : amountS S 1 (ce S 2 a 1) (ce S 2 b 1) (ce S 2 b 2 - ce S 2 a 2) (nI r) = loadS S (nI r) + chgS S a b r := by
      rw [amountS, if_neg (show ¬ (1 : Int32) = 0 by decide)]
      rfl
    rw [ea, rateS, cl0 (by omega), h3, if_neg (show ¬ nI w ≤ 0 from nI_ge (a := 0) (by omega) (by omega)), ← e, rX, h3]
  have hr2 : ∀ r, r < sz S 0 → ¬ rX S a b r < 0 ∧ ¬ (1000000000 : Int32) ≤ rX S a b r := fun r h => by
    obtain ⟨q, h1, h2, -⟩ := hr r h
    rw [h2]
    exact ⟨nI_pos (by omega), nI_ge (b := 1000000000) h1 (by decide)⟩
  refine ⟨by omega, hr2, ?_⟩
  rw [low_mn _ (by omega) (fun r h => (hr2 r h).2), high_mx _ (by omega) (fun r h => (hr2 r h).1), spreadIfS, gainS, cl1 (by omega), cl1 (by omega), cl2 (by omega), cl2 (by omega), spreadS]
  rw [sp_mm (R := rX S a b) (sz S 0) (by omega) (fun r h => by
    obtain ⟨q, -, h2, h3⟩ := hr r h
    rw [h3, h2]) (fun r h => (hr2 r h).1)]
set_option maxHeartbeats 4000000 in
theorem c_L_fair (l : Launch) {S : HA} {Hs : List HA} {P : PV} {n : Nat} (hV : V S n) (hn : n ≤ 900000)  : LCon l (RL_ 7 0 0 224) yL_fair cL_fair 13 [vR (7, 0, 0)] ((S, (Hs, P)) : XS) (fun v X' => v = 1 ∧ X' = ((S, (Hs, P)) : XS)) := by
  refine lcon_of (by decide +kernel) rfl (Nat.le_of_ble_eq_true rfl) (fun B => ?_)
  show GL l (RL_ 7 0 0 224) cL_fair 13 _ (KM (fun v X' => v = 1 ∧ X' = ((S, (Hs, P)) : XS)) 0 0) 0 [] B [some (vR (7, 0, 0)), none, none, none, none, none, none, none, none, none, none, none, none] [] ((S, (Hs, P)) : XS) 0 0
  generalize hK : KM (fun v X' => v = 1 ∧ X' = ((S, (Hs, P)) : XS)) 0 0 = K
  have hB := hV.1.2.1
  obtain ⟨b0, b1, b2, b3⟩ := id hB
  refine l_blk (pc' := 3) (loc' := [some (vR (7, 0, 0)), none, none, none, none, none, none, none, none, none, none, none, none]) (st' := [vI (10 : Int32), vR (7, 0, 0)]) (B' := B) [(0, .aload_n 0), (1, .bipush 10)] (by decide +kernel) rfl rfl ?_
  refine l_callV (spreadS S 1 (-6) (-6) 0) ((S, (Hs, P)) : XS) [vI (10 : Int32)] [] vl_RL_60 mi_X4_count (k_count l (r_count10)) rfl rfl rfl ⟨Nat.le_of_ble_eq_true rfl, Nat.le_of_ble_eq_true rfl⟩ rfl (Nat.le_of_ble_eq_true rfl) ⟨Nat.le_of_ble_eq_true rfl, Nat.le_of_ble_eq_true rfl⟩ (by decide +kernel) ?_
  refine l_blk (pc' := 19) (loc' := [some (vR (7, 0, 0)), some (vI (spreadS S 1 (-6) (-6) 0)), some (vI (spreadS S 1 (-6) (-6) 0)), some (vI (-6 : Int32)), some (vI (-6 : Int32)), some (vI (0 : Int32)), none, none, none, none, none, none, none]) (st' := []) (B' := B) [(6, .istore_n 1), (7, .iload_n 1), (8, .istore_n 2), (9, .bipush (-6)), (11, .istore_n 3), (12, .bipush (-6)), (14, .istore 4), (16, .iconst 0), (17, .istore 5)] (by decide +kernel) rfl rfl ?_
  have lp19 : ∀ (k19 i19 : Nat), i19 ≤ sz S 2 → sz S 2 < i19 + k19 → GL l (RL_ 7 0 0 224) cL_fair 13 (some .boolean) K 19 [] (B) [some (vR (7, 0, 0)), some (vI (spreadS S 1 (-6) (-6) 0)), some (vI ((outF S i19).2.2)), some (vI ((outF S i19).1)), some (vI ((outF S i19).2.1)), some (vI (nI i19)), none, none, none, none, none, none, none] [] ((S, (Hs, P)) : XS) 0 0 := by
    intro k19
    induction k19 with
    | zero =>
      intro i19 hi19 hk19
      exact absurd hk19 (by omega)
    | succ k19 ih19 =>
      intro i19 hi19 hk19
      refine l_blk (pc' := 23) (loc' := [some (vR (7, 0, 0)), some (vI (spreadS S 1 (-6) (-6) 0)), some (vI ((outF S i19).2.2)), some (vI ((outF S i19).1)), some (vI ((outF S i19).2.1)), some (vI (nI i19)), none, none, none, none, none, none, none]) (st' := [vI (3 : Int32), vR (7, 0, 0), vI (nI i19)]) (B' := B) [(19, .iload 5), (21, .aload_n 0), (22, .iconst 3)] (by decide +kernel) rfl rfl ?_
      refine l_callV (nI (sz S 2)) ((S, (Hs, P)) : XS) [vI (3 : Int32)] [vI (nI i19)] vl_RL_60 mi_X4_count (k_count l (r_count3)) rfl rfl rfl ⟨Nat.le_of_ble_eq_true rfl, Nat.le_of_ble_eq_true rfl⟩ rfl (Nat.le_of_ble_eq_true rfl) ⟨Nat.le_of_ble_eq_true rfl, Nat.le_of_ble_eq_true rfl⟩ (by decide +kernel) ?_
      refine l_icmp_ge (off := 232) (tgt := 258) (by decide +kernel) (by decide) (fun zc26 => ?_) (fun zc26 => ?_)
      · rw [nI_leI (by omega) (by omega)] at zc26
        obtain rfl : i19 = sz S 2 := by omega
        refine l_blk (pc' := 260) (loc' := [some (vR (7, 0, 0)), some (vI (spreadS S 1 (-6) (-6) 0)), some (vI ((outF S (sz S 2)).2.2)), some (vI ((outF S (sz S 2)).1)), some (vI ((outF S (sz S 2)).2.1)), some (vI (nI (sz S 2))), none, none, none, none, none, none, none]) (st' := [vI (0 : Int32), vR (7, 0, 0)]) (B' := B) [(258, .aload_n 0), (259, .iconst 0)] (by decide +kernel) rfl rfl ?_
        refine l_callV ((outF S (sz S 2)).1) ((S, (Hs, P)) : XS) [vI (0 : Int32)] [] vl_RL_134 mi_X4_fairer (k_fairer l (fa_0 hB)) rfl rfl rfl ⟨Nat.le_of_ble_eq_true rfl, Nat.le_of_ble_eq_true rfl⟩ rfl (Nat.le_of_ble_eq_true rfl) ⟨Nat.le_of_ble_eq_true rfl, Nat.le_of_ble_eq_true rfl⟩ (by decide +kernel) ?_
        refine l_blk (pc' := 264) (loc' := [some (vR (7, 0, 0)), some (vI (spreadS S 1 (-6) (-6) 0)), some (vI ((outF S (sz S 2)).2.2)), some (vI ((outF S (sz S 2)).1)), some (vI ((outF S (sz S 2)).2.1)), some (vI (nI (sz S 2))), none, none, none, none, none, none, none]) (st' := [vI ((outF S (sz S 2)).1), vI ((outF S (sz S 2)).1)]) (B' := B) [(263, .iload_n 3)] (by decide +kernel) rfl rfl ?_
        refine l_icmp_ne (off := 45) (tgt := 309) (by decide +kernel) (by decide) (fun zc264 => ?_) (fun zc264 => ?_)
        · exact absurd rfl zc264
        · refine l_blk (pc' := 269) (loc' := [some (vR (7, 0, 0)), some (vI (spreadS S 1 (-6) (-6) 0)), some (vI ((outF S (sz S 2)).2.2)), some (vI ((outF S (sz S 2)).1)), some (vI ((outF S (sz S 2)).2.1)), some (vI (nI (sz S 2))), none, none, none, none, none, none, none]) (st' := [vI (1 : Int32), vR (7, 0, 0)]) (B' := B) [(267, .aload_n 0), (268, .iconst 1)] (by decide +kernel) rfl rfl ?_
          refine l_callV ((outF S (sz S 2)).2.1) ((S, (Hs, P)) : XS) [vI (1 : Int32)] [] vl_RL_134 mi_X4_fairer (k_fairer l (fa_1 hB)) rfl rfl rfl ⟨Nat.le_of_ble_eq_true rfl, Nat.le_of_ble_eq_true rfl⟩ rfl (Nat.le_of_ble_eq_true rfl) ⟨Nat.le_of_ble_eq_true rfl, Nat.le_of_ble_eq_true rfl⟩ (by decide +kernel) ?_
          refine l_blk (pc' := 274) (loc' := [some (vR (7, 0, 0)), some (vI (spreadS S 1 (-6) (-6) 0)), some (vI ((outF S (sz S 2)).2.2)), some (vI ((outF S (sz S 2)).1)), some (vI ((outF S (sz S 2)).2.1)), some (vI (nI (sz S 2))), none, none, none, none, none, none, none]) (st' := [vI ((outF S (sz S 2)).2.1), vI ((outF S (sz S 2)).2.1)]) (B' := B) [(272, .iload 4)] (by decide +kernel) rfl rfl ?_
          refine l_icmp_ne (off := 35) (tgt := 309) (by decide +kernel) (by decide) (fun zc274 => ?_) (fun zc274 => ?_)
          · exact absurd rfl zc274
          · refine l_blk (pc' := 279) (loc' := [some (vR (7, 0, 0)), some (vI (spreadS S 1 (-6) (-6) 0)), some (vI ((outF S (sz S 2)).2.2)), some (vI ((outF S (sz S 2)).1)), some (vI ((outF S (sz S 2)).2.1)), some (vI (nI (sz S 2))), none, none, none, none, none, none, none]) (st' := [vI (2 : Int32), vR (7, 0, 0)]) (B' := B) [(277, .aload_n 0), (278, .iconst 2)] (by decide +kernel) rfl rfl ?_
            refine l_callV (if 0 ≤ (outF S (sz S 2)).1 then (outF S (sz S 2)).2.2 else -6) ((S, (Hs, P)) : XS) [vI (2 : Int32)] [] vl_RL_134 mi_X4_fairer (k_fairer l (fa_2 hB)) rfl rfl rfl ⟨Nat.le_of_ble_eq_true rfl, Nat.le_of_ble_eq_true rfl⟩ rfl (Nat.le_of_ble_eq_true rfl) ⟨Nat.le_of_ble_eq_true rfl, Nat.le_of_ble_eq_true rfl⟩ (by decide +kernel) ?_
            refine l_blk (pc' := 283) (loc' := [some (vR (7, 0, 0)), some (vI (spreadS S 1 (-6) (-6) 0)), some (vI ((outF S (sz S 2)).2.2)), some (vI ((outF S (sz S 2)).1)), some (vI ((outF S (sz S 2)).2.1)), some (vI (nI (sz S 2))), none, none, none, none, none, none, none]) (st' := [vI ((outF S (sz S 2)).1), vI (if 0 ≤ (outF S (sz S 2)).1 then (outF S (sz S 2)).2.2 else -6)]) (B' := B) [(282, .iload_n 3)] (by decide +kernel) rfl rfl ?_
            refine l_if_ge (off := 8) (tgt := 291) (by decide +kernel) (by decide) (fun zc283 => ?_) (fun zc283 => ?_)
            · refine l_blk (pc' := 292) (loc' := [some (vR (7, 0, 0)), some (vI (spreadS S 1 (-6) (-6) 0)), some (vI ((outF S (sz S 2)).2.2)), some (vI ((outF S (sz S 2)).1)), some (vI ((outF S (sz S 2)).2.1)), some (vI (nI (sz S 2))), none, none, none, none, none, none, none]) (st' := [vI ((outF S (sz S 2)).2.2), vI (if 0 ≤ (outF S (sz S 2)).1 then (outF S (sz S 2)).2.2 else -6)]) (B' := B) [(291, .iload_n 2)] (by decide +kernel) rfl rfl ?_
              refine l_icmp_ne (off := 17) (tgt := 309) (by decide +kernel) (by decide) (fun zc292 => ?_) (fun zc292 => ?_)
              · exact absurd zc292 (not_not_intro (if_pos zc283))
              · refine l_blk (pc' := 298) (loc' := [some (vR (7, 0, 0)), some (vI (spreadS S 1 (-6) (-6) 0)), some (vI ((outF S (sz S 2)).2.2)), some (vI ((outF S (sz S 2)).1)), some (vI ((outF S (sz S 2)).2.1)), some (vI (nI (sz S 2))), none, none, none, none, none, none, none]) (st' := [vI (10 : Int32), vR (7, 0, 0)]) (B' := B) [(295, .aload_n 0), (296, .bipush 10)] (by decide +kernel) rfl rfl ?_
                refine l_callV (spreadS S 1 (-6) (-6) 0) ((S, (Hs, P)) : XS) [vI (10 : Int32)] [] vl_RL_60 mi_X4_count (k_count l (r_count10)) rfl rfl rfl ⟨Nat.le_of_ble_eq_true rfl, Nat.le_of_ble_eq_true rfl⟩ rfl (Nat.le_of_ble_eq_true rfl) ⟨Nat.le_of_ble_eq_true rfl, Nat.le_of_ble_eq_true rfl⟩ (by decide +kernel) ?_
                refine l_blk (pc' := 302) (loc' := [some (vR (7, 0, 0)), some (vI (spreadS S 1 (-6) (-6) 0)), some (vI ((outF S (sz S 2)).2.2)), some (vI ((outF S (sz S 2)).1)), some (vI ((outF S (sz S 2)).2.1)), some (vI (nI (sz S 2))), none, none, none, none, none, none, none]) (st' := [vI (spreadS S 1 (-6) (-6) 0), vI (spreadS S 1 (-6) (-6) 0)]) (B' := B) [(301, .iload_n 1)] (by decide +kernel) rfl rfl ?_
                refine l_icmp_ne (off := 7) (tgt := 309) (by decide +kernel) (by decide) (fun zc302 => ?_) (fun zc302 => ?_)
                · exact absurd rfl zc302
                · refine l_blk (pc' := 310) (loc' := [some (vR (7, 0, 0)), some (vI (spreadS S 1 (-6) (-6) 0)), some (vI ((outF S (sz S 2)).2.2)), some (vI ((outF S (sz S 2)).1)), some (vI ((outF S (sz S 2)).2.1)), some (vI (nI (sz S 2))), none, none, none, none, none, none, none]) (st' := [vI (1 : Int32)]) (B' := B) [(305, .iconst 1), (306, .goto 4)] (by decide +kernel) rfl rfl ?_
                  subst hK
                  exact l_zret ⟨Nat.le_of_ble_eq_true rfl, Nat.le_of_ble_eq_true rfl⟩ (Or.inr rfl) (⟨rfl, rfl⟩) (by decide +kernel)
            · refine l_blk (pc' := 292) (loc' := [some (vR (7, 0, 0)), some (vI (spreadS S 1 (-6) (-6) 0)), some (vI ((outF S (sz S 2)).2.2)), some (vI ((outF S (sz S 2)).1)), some (vI ((outF S (sz S 2)).2.1)), some (vI (nI (sz S 2))), none, none, none, none, none, none, none]) (st' := [vI (-6 : Int32), vI (if 0 ≤ (outF S (sz S 2)).1 then (outF S (sz S 2)).2.2 else -6)]) (B' := B) [(286, .bipush (-6)), (288, .goto 4)] (by decide +kernel) rfl rfl ?_
              refine l_icmp_ne (off := 17) (tgt := 309) (by decide +kernel) (by decide) (fun zc292 => ?_) (fun zc292 => ?_)
              · exact absurd zc292 (not_not_intro (if_neg zc283))
              · refine l_blk (pc' := 298) (loc' := [some (vR (7, 0, 0)), some (vI (spreadS S 1 (-6) (-6) 0)), some (vI ((outF S (sz S 2)).2.2)), some (vI ((outF S (sz S 2)).1)), some (vI ((outF S (sz S 2)).2.1)), some (vI (nI (sz S 2))), none, none, none, none, none, none, none]) (st' := [vI (10 : Int32), vR (7, 0, 0)]) (B' := B) [(295, .aload_n 0), (296, .bipush 10)] (by decide +kernel) rfl rfl ?_
                refine l_callV (spreadS S 1 (-6) (-6) 0) ((S, (Hs, P)) : XS) [vI (10 : Int32)] [] vl_RL_60 mi_X4_count (k_count l (r_count10)) rfl rfl rfl ⟨Nat.le_of_ble_eq_true rfl, Nat.le_of_ble_eq_true rfl⟩ rfl (Nat.le_of_ble_eq_true rfl) ⟨Nat.le_of_ble_eq_true rfl, Nat.le_of_ble_eq_true rfl⟩ (by decide +kernel) ?_
                refine l_blk (pc' := 302) (loc' := [some (vR (7, 0, 0)), some (vI (spreadS S 1 (-6) (-6) 0)), some (vI ((outF S (sz S 2)).2.2)), some (vI ((outF S (sz S 2)).1)), some (vI ((outF S (sz S 2)).2.1)), some (vI (nI (sz S 2))), none, none, none, none, none, none, none]) (st' := [vI (spreadS S 1 (-6) (-6) 0), vI (spreadS S 1 (-6) (-6) 0)]) (B' := B) [(301, .iload_n 1)] (by decide +kernel) rfl rfl ?_
                refine l_icmp_ne (off := 7) (tgt := 309) (by decide +kernel) (by decide) (fun zc302 => ?_) (fun zc302 => ?_)
                · exact absurd rfl zc302
                · refine l_blk (pc' := 310) (loc' := [some (vR (7, 0, 0)), some (vI (spreadS S 1 (-6) (-6) 0)), some (vI ((outF S (sz S 2)).2.2)), some (vI ((outF S (sz S 2)).1)), some (vI ((outF S (sz S 2)).2.1)), some (vI (nI (sz S 2))), none, none, none, none, none, none, none]) (st' := [vI (1 : Int32)]) (B' := B) [(305, .iconst 1), (306, .goto 4)] (by decide +kernel) rfl rfl ?_
                  subst hK
                  exact l_zret ⟨Nat.le_of_ble_eq_true rfl, Nat.le_of_ble_eq_true rfl⟩ (Or.inr rfl) (⟨rfl, rfl⟩) (by decide +kernel)
      · rw [nI_leI (by omega) (by omega)] at zc26
        refine l_blk (pc' := 35) (loc' := [some (vR (7, 0, 0)), some (vI (spreadS S 1 (-6) (-6) 0)), some (vI ((outF S i19).2.2)), some (vI ((outF S i19).1)), some (vI ((outF S i19).2.1)), some (vI (nI i19)), some (vI ((nI i19) + (1 : Int32))), none, none, none, none, none, none]) (st' := []) (B' := B) [(29, .iload 5), (31, .iconst 1), (32, .iadd), (33, .istore 6)] (by decide +kernel) rfl rfl ?_
        have lp35 : ∀ (k35 i35 : Nat), i19 + 1 ≤ i35 → i35 ≤ sz S 2 → sz S 2 < i35 + k35 → GL l (RL_ 7 0 0 224) cL_fair 13 (some .boolean) K 35 [] (B) [some (vR (7, 0, 0)), some (vI (spreadS S 1 (-6) (-6) 0)), some (vI ((inG S i19 (outF S i19) i35).2.2)), some (vI ((inG S i19 (outF S i19) i35).1)), some (vI ((inG S i19 (outF S i19) i35).2.1)), some (vI (nI i19)), some (vI (nI i35)), none, none, none, none, none, none] [] ((S, (Hs, P)) : XS) 0 0 := by
          intro k35
          induction k35 with
          | zero =>
            intro i35 hl35 hi35 hk35
            exact absurd hk35 (by omega)
          | succ k35 ih35 =>
            intro i35 hl35 hi35 hk35
            refine l_blk (pc' := 39) (loc' := [some (vR (7, 0, 0)), some (vI (spreadS S 1 (-6) (-6) 0)), some (vI ((inG S i19 (outF S i19) i35).2.2)), some (vI ((inG S i19 (outF S i19) i35).1)), some (vI ((inG S i19 (outF S i19) i35).2.1)), some (vI (nI i19)), some (vI (nI i35)), none, none, none, none, none, none]) (st' := [vI (3 : Int32), vR (7, 0, 0), vI (nI i35)]) (B' := B) [(35, .iload 6), (37, .aload_n 0), (38, .iconst 3)] (by decide +kernel) rfl rfl ?_
            refine l_callV (nI (sz S 2)) ((S, (Hs, P)) : XS) [vI (3 : Int32)] [vI (nI i35)] vl_RL_60 mi_X4_count (k_count l (r_count3)) rfl rfl rfl ⟨Nat.le_of_ble_eq_true rfl, Nat.le_of_ble_eq_true rfl⟩ rfl (Nat.le_of_ble_eq_true rfl) ⟨Nat.le_of_ble_eq_true rfl, Nat.le_of_ble_eq_true rfl⟩ (by decide +kernel) ?_
            refine l_icmp_ge (off := 210) (tgt := 252) (by decide +kernel) (by decide) (fun zc42 => ?_) (fun zc42 => ?_)
            · rw [nI_leI (by omega) (by omega)] at zc42
              obtain rfl : i35 = sz S 2 := by omega
              refine l_blk (pc' := 19) (loc' := [some (vR (7, 0, 0)), some (vI (spreadS S 1 (-6) (-6) 0)), some (vI ((inG S i19 (outF S i19) (sz S 2)).2.2)), some (vI ((inG S i19 (outF S i19) (sz S 2)).1)), some (vI ((inG S i19 (outF S i19) (sz S 2)).2.1)), some (vI ((nI i19) + (1 : Int32))), some (vI (nI (sz S 2))), none, none, none, none, none, none]) (st' := []) (B' := B) [(252, .iinc 5 1), (255, .goto (-236))] (by decide +kernel) rfl rfl ?_
              exact l_sub (loc' := [some (vR (7, 0, 0)), some (vI (spreadS S 1 (-6) (-6) 0)), some (vI ((outF S (i19 + 1)).2.2)), some (vI ((outF S (i19 + 1)).1)), some (vI ((outF S (i19 + 1)).2.1)), some (vI (nI (i19 + 1))), none, none, none, none, none, none, none]) ⟨Or.inr rfl, ⟨Or.inr rfl, ⟨Or.inr rfl, ⟨Or.inr rfl, ⟨Or.inr rfl, ⟨Or.inr (congrArg (fun z => some (vI z)) (nI_1 _).symm), ⟨Or.inl rfl, ⟨Or.inr rfl, ⟨Or.inr rfl, ⟨Or.inr rfl, ⟨Or.inr rfl, ⟨Or.inr rfl, ⟨Or.inr rfl, trivial⟩⟩⟩⟩⟩⟩⟩⟩⟩⟩⟩⟩⟩ (ih19 (i19 + 1) (by omega) (by omega))
            · rw [nI_leI (by omega) (by omega)] at zc42
              refine l_blk (pc' := 49) (loc' := [some (vR (7, 0, 0)), some (vI (spreadS S 1 (-6) (-6) 0)), some (vI ((inG S i19 (outF S i19) i35).2.2)), some (vI ((inG S i19 (outF S i19) i35).1)), some (vI ((inG S i19 (outF S i19) i35).2.1)), some (vI (nI i19)), some (vI (nI i35)), none, none, none, none, none, none]) (st' := [vI (3 : Int32), vI (nI i19), vR (7, 0, 0)]) (B' := B) [(45, .aload_n 0), (46, .iload 5), (48, .iconst 3)] (by decide +kernel) rfl rfl ?_
              refine l_callV (ce S 2 i19 3) ((S, (Hs, P)) : XS) [vI (nI i19), vI (3 : Int32)] [] vl_RL_107 mi_X4_task (k_task l (r_task3 hB (show i19 < sz S 2 by omega))) rfl rfl rfl ⟨Nat.le_of_ble_eq_true rfl, Nat.le_of_ble_eq_true rfl⟩ rfl (Nat.le_of_ble_eq_true rfl) ⟨Nat.le_of_ble_eq_true rfl, Nat.le_of_ble_eq_true rfl⟩ (by decide +kernel) ?_
              refine l_blk (pc' := 53) (loc' := [some (vR (7, 0, 0)), some (vI (spreadS S 1 (-6) (-6) 0)), some (vI ((inG S i19 (outF S i19) i35).2.2)), some (vI ((inG S i19 (outF S i19) i35).1)), some (vI ((inG S i19 (outF S i19) i35).2.1)), some (vI (nI i19)), some (vI (nI i35)), none, none, none, none, none, none]) (st' := [vI (1 : Int32), vI (ce S 2 i19 3)]) (B' := B) [(52, .iconst 1)] (by decide +kernel) rfl rfl ?_
              refine l_icmp_eq (off := 193) (tgt := 246) (by decide +kernel) (by decide) (fun zc53 => ?_) (fun zc53 => ?_)
              · refine l_blk (pc' := 35) (loc' := [some (vR (7, 0, 0)), some (vI (spreadS S 1 (-6) (-6) 0)), some (vI ((inG S i19 (outF S i19) i35).2.2)), some (vI ((inG S i19 (outF S i19) i35).1)), some (vI ((inG S i19 (outF S i19) i35).2.1)), some (vI (nI i19)), some (vI ((nI i35) + (1 : Int32))), none, none, none, none, none, none]) (st' := []) (B' := B) [(246, .iinc 6 1), (249, .goto (-214))] (by decide +kernel) rfl rfl ?_
                exact l_sub (loc' := [some (vR (7, 0, 0)), some (vI (spreadS S 1 (-6) (-6) 0)), some (vI ((inG S i19 (outF S i19) (i35 + 1)).2.2)), some (vI ((inG S i19 (outF S i19) (i35 + 1)).1)), some (vI ((inG S i19 (outF S i19) (i35 + 1)).2.1)), some (vI (nI i19)), some (vI (nI (i35 + 1))), none, none, none, none, none, none]) ⟨Or.inr rfl, ⟨Or.inr rfl, ⟨Or.inr (congrArg (fun z => some (vI z)) (congrArg (fun z : P3 => z.2.2) (in_skip (by omega) (can_z hB (show i19 < sz S 2 by omega) (show i35 < sz S 2 by omega) (Or.inl zc53))))), ⟨Or.inr (congrArg (fun z => some (vI z)) (congrArg (fun z : P3 => z.1) (in_skip (by omega) (can_z hB (show i19 < sz S 2 by omega) (show i35 < sz S 2 by omega) (Or.inl zc53))))), ⟨Or.inr (congrArg (fun z => some (vI z)) (congrArg (fun z : P3 => z.2.1) (in_skip (by omega) (can_z hB (show i19 < sz S 2 by omega) (show i35 < sz S 2 by omega) (Or.inl zc53))))), ⟨Or.inr rfl, ⟨Or.inr (congrArg (fun z => some (vI z)) (nI_1 _).symm), ⟨Or.inr rfl, ⟨Or.inr rfl, ⟨Or.inr rfl, ⟨Or.inr rfl, ⟨Or.inr rfl, ⟨Or.inr rfl, trivial⟩⟩⟩⟩⟩⟩⟩⟩⟩⟩⟩⟩⟩ (ih35 (i35 + 1) (by omega) (by omega) (by omega))
              · refine l_blk (pc' := 60) (loc' := [some (vR (7, 0, 0)), some (vI (spreadS S 1 (-6) (-6) 0)), some (vI ((inG S i19 (outF S i19) i35).2.2)), some (vI ((inG S i19 (outF S i19) i35).1)), some (vI ((inG S i19 (outF S i19) i35).2.1)), some (vI (nI i19)), some (vI (nI i35)), none, none, none, none, none, none]) (st' := [vI (3 : Int32), vI (nI i35), vR (7, 0, 0)]) (B' := B) [(56, .aload_n 0), (57, .iload 6), (59, .iconst 3)] (by decide +kernel) rfl rfl ?_
                refine l_callV (ce S 2 i35 3) ((S, (Hs, P)) : XS) [vI (nI i35), vI (3 : Int32)] [] vl_RL_107 mi_X4_task (k_task l (r_task3 hB (show i35 < sz S 2 by omega))) rfl rfl rfl ⟨Nat.le_of_ble_eq_true rfl, Nat.le_of_ble_eq_true rfl⟩ rfl (Nat.le_of_ble_eq_true rfl) ⟨Nat.le_of_ble_eq_true rfl, Nat.le_of_ble_eq_true rfl⟩ (by decide +kernel) ?_
                refine l_blk (pc' := 64) (loc' := [some (vR (7, 0, 0)), some (vI (spreadS S 1 (-6) (-6) 0)), some (vI ((inG S i19 (outF S i19) i35).2.2)), some (vI ((inG S i19 (outF S i19) i35).1)), some (vI ((inG S i19 (outF S i19) i35).2.1)), some (vI (nI i19)), some (vI (nI i35)), none, none, none, none, none, none]) (st' := [vI (1 : Int32), vI (ce S 2 i35 3)]) (B' := B) [(63, .iconst 1)] (by decide +kernel) rfl rfl ?_
                refine l_icmp_eq (off := 182) (tgt := 246) (by decide +kernel) (by decide) (fun zc64 => ?_) (fun zc64 => ?_)
                · refine l_blk (pc' := 35) (loc' := [some (vR (7, 0, 0)), some (vI (spreadS S 1 (-6) (-6) 0)), some (vI ((inG S i19 (outF S i19) i35).2.2)), some (vI ((inG S i19 (outF S i19) i35).1)), some (vI ((inG S i19 (outF S i19) i35).2.1)), some (vI (nI i19)), some (vI ((nI i35) + (1 : Int32))), none, none, none, none, none, none]) (st' := []) (B' := B) [(246, .iinc 6 1), (249, .goto (-214))] (by decide +kernel) rfl rfl ?_
                  exact l_sub (loc' := [some (vR (7, 0, 0)), some (vI (spreadS S 1 (-6) (-6) 0)), some (vI ((inG S i19 (outF S i19) (i35 + 1)).2.2)), some (vI ((inG S i19 (outF S i19) (i35 + 1)).1)), some (vI ((inG S i19 (outF S i19) (i35 + 1)).2.1)), some (vI (nI i19)), some (vI (nI (i35 + 1))), none, none, none, none, none, none]) ⟨Or.inr rfl, ⟨Or.inr rfl, ⟨Or.inr (congrArg (fun z => some (vI z)) (congrArg (fun z : P3 => z.2.2) (in_skip (by omega) (can_z hB (show i19 < sz S 2 by omega) (show i35 < sz S 2 by omega) (Or.inr (Or.inl zc64)))))), ⟨Or.inr (congrArg (fun z => some (vI z)) (congrArg (fun z : P3 => z.1) (in_skip (by omega) (can_z hB (show i19 < sz S 2 by omega) (show i35 < sz S 2 by omega) (Or.inr (Or.inl zc64)))))), ⟨Or.inr (congrArg (fun z => some (vI z)) (congrArg (fun z : P3 => z.2.1) (in_skip (by omega) (can_z hB (show i19 < sz S 2 by omega) (show i35 < sz S 2 by omega) (Or.inr (Or.inl zc64)))))), ⟨Or.inr rfl, ⟨Or.inr (congrArg (fun z => some (vI z)) (nI_1 _).symm), ⟨Or.inr rfl, ⟨Or.inr rfl, ⟨Or.inr rfl, ⟨Or.inr rfl, ⟨Or.inr rfl, ⟨Or.inr rfl, trivial⟩⟩⟩⟩⟩⟩⟩⟩⟩⟩⟩⟩⟩ (ih35 (i35 + 1) (by omega) (by omega) (by omega))
                · refine l_blk (pc' := 71) (loc' := [some (vR (7, 0, 0)), some (vI (spreadS S 1 (-6) (-6) 0)), some (vI ((inG S i19 (outF S i19) i35).2.2)), some (vI ((inG S i19 (outF S i19) i35).1)), some (vI ((inG S i19 (outF S i19) i35).2.1)), some (vI (nI i19)), some (vI (nI i35)), none, none, none, none, none, none]) (st' := [vI (1 : Int32), vI (nI i19), vR (7, 0, 0)]) (B' := B) [(67, .aload_n 0), (68, .iload 5), (70, .iconst 1)] (by decide +kernel) rfl rfl ?_
                  refine l_callV (ce S 2 i19 1) ((S, (Hs, P)) : XS) [vI (nI i19), vI (1 : Int32)] [] vl_RL_107 mi_X4_task (k_task l (r_task1 hB (show i19 < sz S 2 by omega))) rfl rfl rfl ⟨Nat.le_of_ble_eq_true rfl, Nat.le_of_ble_eq_true rfl⟩ rfl (Nat.le_of_ble_eq_true rfl) ⟨Nat.le_of_ble_eq_true rfl, Nat.le_of_ble_eq_true rfl⟩ (by decide +kernel) ?_
                  refine l_blk (pc' := 78) (loc' := [some (vR (7, 0, 0)), some (vI (spreadS S 1 (-6) (-6) 0)), some (vI ((inG S i19 (outF S i19) i35).2.2)), some (vI ((inG S i19 (outF S i19) i35).1)), some (vI ((inG S i19 (outF S i19) i35).2.1)), some (vI (nI i19)), some (vI (nI i35)), none, none, none, none, none, none]) (st' := [vI (1 : Int32), vI (nI i35), vR (7, 0, 0), vI (ce S 2 i19 1)]) (B' := B) [(74, .aload_n 0), (75, .iload 6), (77, .iconst 1)] (by decide +kernel) rfl rfl ?_
                  refine l_callV (ce S 2 i35 1) ((S, (Hs, P)) : XS) [vI (nI i35), vI (1 : Int32)] [vI (ce S 2 i19 1)] vl_RL_107 mi_X4_task (k_task l (r_task1 hB (show i35 < sz S 2 by omega))) rfl rfl rfl ⟨Nat.le_of_ble_eq_true rfl, Nat.le_of_ble_eq_true rfl⟩ rfl (Nat.le_of_ble_eq_true rfl) ⟨Nat.le_of_ble_eq_true rfl, Nat.le_of_ble_eq_true rfl⟩ (by decide +kernel) ?_
                  refine l_icmp_ne (off := 6) (tgt := 87) (by decide +kernel) (by decide) (fun zc81 => ?_) (fun zc81 => ?_)
                  · have hc35 := can_o hB hV (show i19 < sz S 2 by omega) (show i35 < sz S 2 by omega) zc53 zc64 zc81
                    obtain ⟨hn35, hR35, hD35⟩ := fair_core hV hn (show i19 < sz S 2 by omega) (show i35 < sz S 2 by omega) hc35
                    refine l_ldc ki_RL_133 (by decide +kernel) ?_
                    refine l_blk (pc' := 98) (loc' := [some (vR (7, 0, 0)), some (vI (spreadS S 1 (-6) (-6) 0)), some (vI ((inG S i19 (outF S i19) i35).2.2)), some (vI ((inG S i19 (outF S i19) i35).1)), some (vI ((inG S i19 (outF S i19) i35).2.1)), some (vI (nI i19)), some (vI (nI i35)), some (vI (1000000000 : Int32)), some (vI (0 : Int32)), none, none, none, none]) (st' := [vI (2 : Int32), vI (nI i35), vR (7, 0, 0)]) (B' := B) [(89, .istore 7), (91, .iconst 0), (92, .istore 8), (94, .aload_n 0), (95, .iload 6), (97, .iconst 2)] (by decide +kernel) rfl rfl ?_
                    refine l_callV (ce S 2 i35 2) ((S, (Hs, P)) : XS) [vI (nI i35), vI (2 : Int32)] [] vl_RL_107 mi_X4_task (k_task l (r_task2 hB (show i35 < sz S 2 by omega))) rfl rfl rfl ⟨Nat.le_of_ble_eq_true rfl, Nat.le_of_ble_eq_true rfl⟩ rfl (Nat.le_of_ble_eq_true rfl) ⟨Nat.le_of_ble_eq_true rfl, Nat.le_of_ble_eq_true rfl⟩ (by decide +kernel) ?_
                    refine l_blk (pc' := 105) (loc' := [some (vR (7, 0, 0)), some (vI (spreadS S 1 (-6) (-6) 0)), some (vI ((inG S i19 (outF S i19) i35).2.2)), some (vI ((inG S i19 (outF S i19) i35).1)), some (vI ((inG S i19 (outF S i19) i35).2.1)), some (vI (nI i19)), some (vI (nI i35)), some (vI (1000000000 : Int32)), some (vI (0 : Int32)), none, none, none, none]) (st' := [vI (2 : Int32), vI (nI i19), vR (7, 0, 0), vI (ce S 2 i35 2)]) (B' := B) [(101, .aload_n 0), (102, .iload 5), (104, .iconst 2)] (by decide +kernel) rfl rfl ?_
                    refine l_callV (ce S 2 i19 2) ((S, (Hs, P)) : XS) [vI (nI i19), vI (2 : Int32)] [vI (ce S 2 i35 2)] vl_RL_107 mi_X4_task (k_task l (r_task2 hB (show i19 < sz S 2 by omega))) rfl rfl rfl ⟨Nat.le_of_ble_eq_true rfl, Nat.le_of_ble_eq_true rfl⟩ rfl (Nat.le_of_ble_eq_true rfl) ⟨Nat.le_of_ble_eq_true rfl, Nat.le_of_ble_eq_true rfl⟩ (by decide +kernel) ?_
                    refine l_blk (pc' := 114) (loc' := [some (vR (7, 0, 0)), some (vI (spreadS S 1 (-6) (-6) 0)), some (vI ((inG S i19 (outF S i19) i35).2.2)), some (vI ((inG S i19 (outF S i19) i35).1)), some (vI ((inG S i19 (outF S i19) i35).2.1)), some (vI (nI i19)), some (vI (nI i35)), some (vI (1000000000 : Int32)), some (vI (0 : Int32)), some (vI ((ce S 2 i35 2) - (ce S 2 i19 2))), some (vI (0 : Int32)), none, none]) (st' := []) (B' := B) [(108, .isub), (109, .istore 9), (111, .iconst 0), (112, .istore 10)] (by decide +kernel) rfl rfl ?_
                    have lp114 : ∀ (k114 i114 : Nat), i114 ≤ sz S 0 → sz S 0 < i114 + k114 → GL l (RL_ 7 0 0 224) cL_fair 13 (some .boolean) K 114 [] (B) [some (vR (7, 0, 0)), some (vI (spreadS S 1 (-6) (-6) 0)), some (vI ((inG S i19 (outF S i19) i35).2.2)), some (vI ((inG S i19 (outF S i19) i35).1)), some (vI ((inG S i19 (outF S i19) i35).2.1)), some (vI (nI i19)), some (vI (nI i35)), some (vI (lowF (rX S i19 i35) i114)), some (vI (highF (rX S i19 i35) i114)), some (vI ((ce S 2 i35 2) - (ce S 2 i19 2))), some (vI (nI i114)), none, none] [] ((S, (Hs, P)) : XS) 0 0 := by
                      intro k114
                      induction k114 with
                      | zero =>
                        intro i114 hi114 hk114
                        exact absurd hk114 (by omega)
                      | succ k114 ih114 =>
                        intro i114 hi114 hk114
                        refine l_blk (pc' := 118) (loc' := [some (vR (7, 0, 0)), some (vI (spreadS S 1 (-6) (-6) 0)), some (vI ((inG S i19 (outF S i19) i35).2.2)), some (vI ((inG S i19 (outF S i19) i35).1)), some (vI ((inG S i19 (outF S i19) i35).2.1)), some (vI (nI i19)), some (vI (nI i35)), some (vI (lowF (rX S i19 i35) i114)), some (vI (highF (rX S i19 i35) i114)), some (vI ((ce S 2 i35 2) - (ce S 2 i19 2))), some (vI (nI i114)), none, none]) (st' := [vI (1 : Int32), vR (7, 0, 0), vI (nI i114)]) (B' := B) [(114, .iload 10), (116, .aload_n 0), (117, .iconst 1)] (by decide +kernel) rfl rfl ?_
                        refine l_callV (nI (sz S 0)) ((S, (Hs, P)) : XS) [vI (1 : Int32)] [vI (nI i114)] vl_RL_60 mi_X4_count (k_count l (r_count1)) rfl rfl rfl ⟨Nat.le_of_ble_eq_true rfl, Nat.le_of_ble_eq_true rfl⟩ rfl (Nat.le_of_ble_eq_true rfl) ⟨Nat.le_of_ble_eq_true rfl, Nat.le_of_ble_eq_true rfl⟩ (by decide +kernel) ?_
                        refine l_icmp_ge (off := 103) (tgt := 224) (by decide +kernel) (by decide) (fun zc121 => ?_) (fun zc121 => ?_)
                        · rw [nI_leI (by omega) (by omega)] at zc121
                          obtain rfl : i114 = sz S 0 := by omega
                          refine l_blk (pc' := 230) (loc' := [some (vR (7, 0, 0)), some (vI (spreadS S 1 (-6) (-6) 0)), some (vI ((inG S i19 (outF S i19) i35).2.2)), some (vI ((inG S i19 (outF S i19) i35).1)), some (vI ((inG S i19 (outF S i19) i35).2.1)), some (vI (nI i19)), some (vI (nI i35)), some (vI (lowF (rX S i19 i35) (sz S 0))), some (vI (highF (rX S i19 i35) (sz S 0))), some (vI ((ce S 2 i35 2) - (ce S 2 i19 2))), some (vI (nI (sz S 0))), none, none]) (st' := [vI ((inG S i19 (outF S i19) i35).2.2), vI ((highF (rX S i19 i35) (sz S 0)) - (lowF (rX S i19 i35) (sz S 0)))]) (B' := B) [(224, .iload 8), (226, .iload 7), (228, .isub), (229, .iload_n 2)] (by decide +kernel) rfl rfl ?_
                          refine l_icmp_ge (off := 16) (tgt := 246) (by decide +kernel) (by decide) (fun zc230 => ?_) (fun zc230 => ?_)
                          · refine l_blk (pc' := 35) (loc' := [some (vR (7, 0, 0)), some (vI (spreadS S 1 (-6) (-6) 0)), some (vI ((inG S i19 (outF S i19) i35).2.2)), some (vI ((inG S i19 (outF S i19) i35).1)), some (vI ((inG S i19 (outF S i19) i35).2.1)), some (vI (nI i19)), some (vI ((nI i35) + (1 : Int32))), some (vI (lowF (rX S i19 i35) (sz S 0))), some (vI (highF (rX S i19 i35) (sz S 0))), some (vI ((ce S 2 i35 2) - (ce S 2 i19 2))), some (vI (nI (sz S 0))), none, none]) (st' := []) (B' := B) [(246, .iinc 6 1), (249, .goto (-214))] (by decide +kernel) rfl rfl ?_
                            exact l_sub (loc' := [some (vR (7, 0, 0)), some (vI (spreadS S 1 (-6) (-6) 0)), some (vI ((inG S i19 (outF S i19) (i35 + 1)).2.2)), some (vI ((inG S i19 (outF S i19) (i35 + 1)).1)), some (vI ((inG S i19 (outF S i19) (i35 + 1)).2.1)), some (vI (nI i19)), some (vI (nI (i35 + 1))), none, none, none, none, none, none]) ⟨Or.inr rfl, ⟨Or.inr rfl, ⟨Or.inr (congrArg (fun z => some (vI z)) (congrArg (fun z : P3 => z.2.2) (in_keep (by omega) hc35 hD35 zc230))), ⟨Or.inr (congrArg (fun z => some (vI z)) (congrArg (fun z : P3 => z.1) (in_keep (by omega) hc35 hD35 zc230))), ⟨Or.inr (congrArg (fun z => some (vI z)) (congrArg (fun z : P3 => z.2.1) (in_keep (by omega) hc35 hD35 zc230))), ⟨Or.inr rfl, ⟨Or.inr (congrArg (fun z => some (vI z)) (nI_1 _).symm), ⟨Or.inl rfl, ⟨Or.inl rfl, ⟨Or.inl rfl, ⟨Or.inl rfl, ⟨Or.inr rfl, ⟨Or.inr rfl, trivial⟩⟩⟩⟩⟩⟩⟩⟩⟩⟩⟩⟩⟩ (ih35 (i35 + 1) (by omega) (by omega) (by omega))
                          · refine l_blk (pc' := 35) (loc' := [some (vR (7, 0, 0)), some (vI (spreadS S 1 (-6) (-6) 0)), some (vI ((highF (rX S i19 i35) (sz S 0)) - (lowF (rX S i19 i35) (sz S 0)))), some (vI (nI i19)), some (vI (nI i35)), some (vI (nI i19)), some (vI ((nI i35) + (1 : Int32))), some (vI (lowF (rX S i19 i35) (sz S 0))), some (vI (highF (rX S i19 i35) (sz S 0))), some (vI ((ce S 2 i35 2) - (ce S 2 i19 2))), some (vI (nI (sz S 0))), none, none]) (st' := []) (B' := B) [(233, .iload 8), (235, .iload 7), (237, .isub), (238, .istore_n 2), (239, .iload 5), (241, .istore_n 3), (242, .iload 6), (244, .istore 4), (246, .iinc 6 1), (249, .goto (-214))] (by decide +kernel) rfl rfl ?_
                            exact l_sub (loc' := [some (vR (7, 0, 0)), some (vI (spreadS S 1 (-6) (-6) 0)), some (vI ((inG S i19 (outF S i19) (i35 + 1)).2.2)), some (vI ((inG S i19 (outF S i19) (i35 + 1)).1)), some (vI ((inG S i19 (outF S i19) (i35 + 1)).2.1)), some (vI (nI i19)), some (vI (nI (i35 + 1))), none, none, none, none, none, none]) ⟨Or.inr rfl, ⟨Or.inr rfl, ⟨Or.inr (congrArg (fun z => some (vI z)) (congrArg (fun z : P3 => z.2.2) (in_new (by omega) hc35 hD35 zc230))), ⟨Or.inr (congrArg (fun z => some (vI z)) (congrArg (fun z : P3 => z.1) (in_new (by omega) hc35 hD35 zc230))), ⟨Or.inr (congrArg (fun z => some (vI z)) (congrArg (fun z : P3 => z.2.1) (in_new (by omega) hc35 hD35 zc230))), ⟨Or.inr rfl, ⟨Or.inr (congrArg (fun z => some (vI z)) (nI_1 _).symm), ⟨Or.inl rfl, ⟨Or.inl rfl, ⟨Or.inl rfl, ⟨Or.inl rfl, ⟨Or.inr rfl, ⟨Or.inr rfl, trivial⟩⟩⟩⟩⟩⟩⟩⟩⟩⟩⟩⟩⟩ (ih35 (i35 + 1) (by omega) (by omega) (by omega))
                        · rw [nI_leI (by omega) (by omega)] at zc121
                          obtain ⟨w0, hw1, hw2, hw3⟩ := (hV.2.1 i114 (by omega)).1
                          have nz0 : ¬ ce S 0 i114 0 = 0 := by rw [hw3]; exact fun z => absurd ((nI_eq (b := 0) (by omega) (by decide)).mp z) (by omega)
                          refine l_blk (pc' := 128) (loc' := [some (vR (7, 0, 0)), some (vI (spreadS S 1 (-6) (-6) 0)), some (vI ((inG S i19 (outF S i19) i35).2.2)), some (vI ((inG S i19 (outF S i19) i35).1)), some (vI ((inG S i19 (outF S i19) i35).2.1)), some (vI (nI i19)), some (vI (nI i35)), some (vI (lowF (rX S i19 i35) i114)), some (vI (highF (rX S i19 i35) i114)), some (vI ((ce S 2 i35 2) - (ce S 2 i19 2))), some (vI (nI i114)), none, none]) (st' := [vI (4 : Int32), vI (nI i114), vR (7, 0, 0)]) (B' := B) [(124, .aload_n 0), (125, .iload 10), (127, .iconst 4)] (by decide +kernel) rfl rfl ?_
                          refine l_callV (loadS S (nI i114)) ((S, (Hs, P)) : XS) [vI (nI i114), vI (4 : Int32)] [] vl_RL_98 mi_X4_about (k_about l (r_about4 hB (show i114 < sz S 0 by omega))) rfl rfl rfl ⟨Nat.le_of_ble_eq_true rfl, Nat.le_of_ble_eq_true rfl⟩ rfl (Nat.le_of_ble_eq_true rfl) ⟨Nat.le_of_ble_eq_true rfl, Nat.le_of_ble_eq_true rfl⟩ (by decide +kernel) ?_
                          refine l_blk (pc' := 137) (loc' := [some (vR (7, 0, 0)), some (vI (spreadS S 1 (-6) (-6) 0)), some (vI ((inG S i19 (outF S i19) i35).2.2)), some (vI ((inG S i19 (outF S i19) i35).1)), some (vI ((inG S i19 (outF S i19) i35).2.1)), some (vI (nI i19)), some (vI (nI i35)), some (vI (lowF (rX S i19 i35) i114)), some (vI (highF (rX S i19 i35) i114)), some (vI ((ce S 2 i35 2) - (ce S 2 i19 2))), some (vI (nI i114)), none, none]) (st' := [vI (1 : Int32), vI (nI i19), vR (7, 0, 0), vI (nI i114), vI (loadS S (nI i114))]) (B' := B) [(131, .iload 10), (133, .aload_n 0), (134, .iload 5), (136, .iconst 1)] (by decide +kernel) rfl rfl ?_
                          refine l_callV (ce S 2 i19 1) ((S, (Hs, P)) : XS) [vI (nI i19), vI (1 : Int32)] [vI (nI i114), vI (loadS S (nI i114))] vl_RL_107 mi_X4_task (k_task l (r_task1 hB (show i19 < sz S 2 by omega))) rfl rfl rfl ⟨Nat.le_of_ble_eq_true rfl, Nat.le_of_ble_eq_true rfl⟩ rfl (Nat.le_of_ble_eq_true rfl) ⟨Nat.le_of_ble_eq_true rfl, Nat.le_of_ble_eq_true rfl⟩ (by decide +kernel) ?_
                          have hm140 : GL l (RL_ 7 0 0 224) cL_fair 13 (some .boolean) K 167 [] (B) [some (vR (7, 0, 0)), some (vI (spreadS S 1 (-6) (-6) 0)), some (vI ((inG S i19 (outF S i19) i35).2.2)), some (vI ((inG S i19 (outF S i19) i35).1)), some (vI ((inG S i19 (outF S i19) i35).2.1)), some (vI (nI i19)), some (vI (nI i35)), some (vI (lowF (rX S i19 i35) i114)), some (vI (highF (rX S i19 i35) i114)), some (vI ((ce S 2 i35 2) - (ce S 2 i19 2))), some (vI (nI i114)), none, none] [vI (chgS S i19 i35 i114), vI (loadS S (nI i114))] ((S, (Hs, P)) : XS) 0 0 := by
                            refine l_blk (pc' := 180) (loc' := [some (vR (7, 0, 0)), some (vI (spreadS S 1 (-6) (-6) 0)), some (vI ((inG S i19 (outF S i19) i35).2.2)), some (vI ((inG S i19 (outF S i19) i35).1)), some (vI ((inG S i19 (outF S i19) i35).2.1)), some (vI (nI i19)), some (vI (nI i35)), some (vI (lowF (rX S i19 i35) i114)), some (vI (highF (rX S i19 i35) i114)), some (vI ((ce S 2 i35 2) - (ce S 2 i19 2))), some (vI (nI i114)), some (vI ((loadS S (nI i114)) + (chgS S i19 i35 i114))), none]) (st' := [vI (0 : Int32), vI (nI i114), vR (7, 0, 0), vI ((1000 : Int32) * ((loadS S (nI i114)) + (chgS S i19 i35 i114)))]) (B' := B) [(167, .iadd), (168, .istore 11), (170, .sipush 1000), (173, .iload 11), (175, .imul), (176, .aload_n 0), (177, .iload 10), (179, .iconst 0)] (by decide +kernel) rfl rfl ?_
                            refine l_callV (ce S 0 i114 0) ((S, (Hs, P)) : XS) [vI (nI i114), vI (0 : Int32)] [vI ((1000 : Int32) * ((loadS S (nI i114)) + (chgS S i19 i35 i114)))] vl_RL_98 mi_X4_about (k_about l (r_about0 hB (show i114 < sz S 0 by omega))) rfl rfl rfl ⟨Nat.le_of_ble_eq_true rfl, Nat.le_of_ble_eq_true rfl⟩ rfl (Nat.le_of_ble_eq_true rfl) ⟨Nat.le_of_ble_eq_true rfl, Nat.le_of_ble_eq_true rfl⟩ (by decide +kernel) ?_
                            refine l_idiv (by decide +kernel) nz0 ?_
                            refine l_st (y := rX S i19 i35 i114) rfl ?_
                            refine l_blk (pc' := 190) (loc' := [some (vR (7, 0, 0)), some (vI (spreadS S 1 (-6) (-6) 0)), some (vI ((inG S i19 (outF S i19) i35).2.2)), some (vI ((inG S i19 (outF S i19) i35).1)), some (vI ((inG S i19 (outF S i19) i35).2.1)), some (vI (nI i19)), some (vI (nI i35)), some (vI (lowF (rX S i19 i35) i114)), some (vI (highF (rX S i19 i35) i114)), some (vI ((ce S 2 i35 2) - (ce S 2 i19 2))), some (vI (nI i114)), some (vI ((loadS S (nI i114)) + (chgS S i19 i35 i114))), some (vI (rX S i19 i35 i114))]) (st' := [vI (lowF (rX S i19 i35) i114), vI (rX S i19 i35 i114)]) (B' := B) [(184, .istore 12), (186, .iload 12), (188, .iload 7)] (by decide +kernel) rfl rfl ?_
                            have hm190 : GL l (RL_ 7 0 0 224) cL_fair 13 (some .boolean) K 200 [] (B) [some (vR (7, 0, 0)), some (vI (spreadS S 1 (-6) (-6) 0)), some (vI ((inG S i19 (outF S i19) i35).2.2)), some (vI ((inG S i19 (outF S i19) i35).1)), some (vI ((inG S i19 (outF S i19) i35).2.1)), some (vI (nI i19)), some (vI (nI i35)), some (vI (lowF (rX S i19 i35) i114)), some (vI (highF (rX S i19 i35) i114)), some (vI ((ce S 2 i35 2) - (ce S 2 i19 2))), some (vI (nI i114)), some (vI ((loadS S (nI i114)) + (chgS S i19 i35 i114))), some (vI (rX S i19 i35 i114))] [vI (lowF (rX S i19 i35) (i114 + 1))] ((S, (Hs, P)) : XS) 0 0 := by
                              refine l_blk (pc' := 206) (loc' := [some (vR (7, 0, 0)), some (vI (spreadS S 1 (-6) (-6) 0)), some (vI ((inG S i19 (outF S i19) i35).2.2)), some (vI ((inG S i19 (outF S i19) i35).1)), some (vI ((inG S i19 (outF S i19) i35).2.1)), some (vI (nI i19)), some (vI (nI i35)), some (vI (lowF (rX S i19 i35) (i114 + 1))), some (vI (highF (rX S i19 i35) i114)), some (vI ((ce S 2 i35 2) - (ce S 2 i19 2))), some (vI (nI i114)), some (vI ((loadS S (nI i114)) + (chgS S i19 i35 i114))), some (vI (rX S i19 i35 i114))]) (st' := [vI (highF (rX S i19 i35) i114), vI (rX S i19 i35 i114)]) (B' := B) [(200, .istore 7), (202, .iload 12), (204, .iload 8)] (by decide +kernel) rfl rfl ?_
                              have hm206 : GL l (RL_ 7 0 0 224) cL_fair 13 (some .boolean) K 216 [] (B) [some (vR (7, 0, 0)), some (vI (spreadS S 1 (-6) (-6) 0)), some (vI ((inG S i19 (outF S i19) i35).2.2)), some (vI ((inG S i19 (outF S i19) i35).1)), some (vI ((inG S i19 (outF S i19) i35).2.1)), some (vI (nI i19)), some (vI (nI i35)), some (vI (lowF (rX S i19 i35) (i114 + 1))), some (vI (highF (rX S i19 i35) i114)), some (vI ((ce S 2 i35 2) - (ce S 2 i19 2))), some (vI (nI i114)), some (vI ((loadS S (nI i114)) + (chgS S i19 i35 i114))), some (vI (rX S i19 i35 i114))] [vI (highF (rX S i19 i35) (i114 + 1))] ((S, (Hs, P)) : XS) 0 0 := by
                                refine l_blk (pc' := 114) (loc' := [some (vR (7, 0, 0)), some (vI (spreadS S 1 (-6) (-6) 0)), some (vI ((inG S i19 (outF S i19) i35).2.2)), some (vI ((inG S i19 (outF S i19) i35).1)), some (vI ((inG S i19 (outF S i19) i35).2.1)), some (vI (nI i19)), some (vI (nI i35)), some (vI (lowF (rX S i19 i35) (i114 + 1))), some (vI (highF (rX S i19 i35) (i114 + 1))), some (vI ((ce S 2 i35 2) - (ce S 2 i19 2))), some (vI ((nI i114) + (1 : Int32))), some (vI ((loadS S (nI i114)) + (chgS S i19 i35 i114))), some (vI (rX S i19 i35 i114))]) (st' := []) (B' := B) [(216, .istore 8), (218, .iinc 10 1), (221, .goto (-107))] (by decide +kernel) rfl rfl ?_
                                exact l_sub (loc' := [some (vR (7, 0, 0)), some (vI (spreadS S 1 (-6) (-6) 0)), some (vI ((inG S i19 (outF S i19) i35).2.2)), some (vI ((inG S i19 (outF S i19) i35).1)), some (vI ((inG S i19 (outF S i19) i35).2.1)), some (vI (nI i19)), some (vI (nI i35)), some (vI (lowF (rX S i19 i35) (i114 + 1))), some (vI (highF (rX S i19 i35) (i114 + 1))), some (vI ((ce S 2 i35 2) - (ce S 2 i19 2))), some (vI (nI (i114 + 1))), none, none]) ⟨Or.inr rfl, ⟨Or.inr rfl, ⟨Or.inr rfl, ⟨Or.inr rfl, ⟨Or.inr rfl, ⟨Or.inr rfl, ⟨Or.inr rfl, ⟨Or.inr rfl, ⟨Or.inr rfl, ⟨Or.inr rfl, ⟨Or.inr (congrArg (fun z => some (vI z)) (nI_1 _).symm), ⟨Or.inl rfl, ⟨Or.inl rfl, trivial⟩⟩⟩⟩⟩⟩⟩⟩⟩⟩⟩⟩⟩ (ih114 (i114 + 1) (by omega) (by omega))
                              refine l_icmp_le (off := 8) (tgt := 214) (by decide +kernel) (by decide) (fun zc206 => ?_) (fun zc206 => ?_)
                              · refine l_blk (pc' := 216) (loc' := [some (vR (7, 0, 0)), some (vI (spreadS S 1 (-6) (-6) 0)), some (vI ((inG S i19 (outF S i19) i35).2.2)), some (vI ((inG S i19 (outF S i19) i35).1)), some (vI ((inG S i19 (outF S i19) i35).2.1)), some (vI (nI i19)), some (vI (nI i35)), some (vI (lowF (rX S i19 i35) (i114 + 1))), some (vI (highF (rX S i19 i35) i114)), some (vI ((ce S 2 i35 2) - (ce S 2 i19 2))), some (vI (nI i114)), some (vI ((loadS S (nI i114)) + (chgS S i19 i35 i114))), some (vI (rX S i19 i35 i114))]) (st' := [vI (highF (rX S i19 i35) i114)]) (B' := B) [(214, .iload 8)] (by decide +kernel) rfl rfl ?_
                                exact l_st ((high_k zc206).symm) hm206
                              · refine l_blk (pc' := 216) (loc' := [some (vR (7, 0, 0)), some (vI (spreadS S 1 (-6) (-6) 0)), some (vI ((inG S i19 (outF S i19) i35).2.2)), some (vI ((inG S i19 (outF S i19) i35).1)), some (vI ((inG S i19 (outF S i19) i35).2.1)), some (vI (nI i19)), some (vI (nI i35)), some (vI (lowF (rX S i19 i35) (i114 + 1))), some (vI (highF (rX S i19 i35) i114)), some (vI ((ce S 2 i35 2) - (ce S 2 i19 2))), some (vI (nI i114)), some (vI ((loadS S (nI i114)) + (chgS S i19 i35 i114))), some (vI (rX S i19 i35 i114))]) (st' := [vI (rX S i19 i35 i114)]) (B' := B) [(209, .iload 12), (211, .goto 5)] (by decide +kernel) rfl rfl ?_
                                exact l_st ((high_n zc206).symm) hm206
                            refine l_icmp_ge (off := 8) (tgt := 198) (by decide +kernel) (by decide) (fun zc190 => ?_) (fun zc190 => ?_)
                            · refine l_blk (pc' := 200) (loc' := [some (vR (7, 0, 0)), some (vI (spreadS S 1 (-6) (-6) 0)), some (vI ((inG S i19 (outF S i19) i35).2.2)), some (vI ((inG S i19 (outF S i19) i35).1)), some (vI ((inG S i19 (outF S i19) i35).2.1)), some (vI (nI i19)), some (vI (nI i35)), some (vI (lowF (rX S i19 i35) i114)), some (vI (highF (rX S i19 i35) i114)), some (vI ((ce S 2 i35 2) - (ce S 2 i19 2))), some (vI (nI i114)), some (vI ((loadS S (nI i114)) + (chgS S i19 i35 i114))), some (vI (rX S i19 i35 i114))]) (st' := [vI (lowF (rX S i19 i35) i114)]) (B' := B) [(198, .iload 7)] (by decide +kernel) rfl rfl ?_
                              exact l_st ((low_k zc190).symm) hm190
                            · refine l_blk (pc' := 200) (loc' := [some (vR (7, 0, 0)), some (vI (spreadS S 1 (-6) (-6) 0)), some (vI ((inG S i19 (outF S i19) i35).2.2)), some (vI ((inG S i19 (outF S i19) i35).1)), some (vI ((inG S i19 (outF S i19) i35).2.1)), some (vI (nI i19)), some (vI (nI i35)), some (vI (lowF (rX S i19 i35) i114)), some (vI (highF (rX S i19 i35) i114)), some (vI ((ce S 2 i35 2) - (ce S 2 i19 2))), some (vI (nI i114)), some (vI ((loadS S (nI i114)) + (chgS S i19 i35 i114))), some (vI (rX S i19 i35 i114))]) (st' := [vI (rX S i19 i35 i114)]) (B' := B) [(193, .iload 12), (195, .goto 5)] (by decide +kernel) rfl rfl ?_
                              exact l_st ((low_n zc190).symm) hm190
                          refine l_icmp_ne (off := 8) (tgt := 148) (by decide +kernel) (by decide) (fun zc140 => ?_) (fun zc140 => ?_)
                          · refine l_blk (pc' := 154) (loc' := [some (vR (7, 0, 0)), some (vI (spreadS S 1 (-6) (-6) 0)), some (vI ((inG S i19 (outF S i19) i35).2.2)), some (vI ((inG S i19 (outF S i19) i35).1)), some (vI ((inG S i19 (outF S i19) i35).2.1)), some (vI (nI i19)), some (vI (nI i35)), some (vI (lowF (rX S i19 i35) i114)), some (vI (highF (rX S i19 i35) i114)), some (vI ((ce S 2 i35 2) - (ce S 2 i19 2))), some (vI (nI i114)), none, none]) (st' := [vI (1 : Int32), vI (nI i35), vR (7, 0, 0), vI (nI i114), vI (loadS S (nI i114))]) (B' := B) [(148, .iload 10), (150, .aload_n 0), (151, .iload 6), (153, .iconst 1)] (by decide +kernel) rfl rfl ?_
                            refine l_callV (ce S 2 i35 1) ((S, (Hs, P)) : XS) [vI (nI i35), vI (1 : Int32)] [vI (nI i114), vI (loadS S (nI i114))] vl_RL_107 mi_X4_task (k_task l (r_task1 hB (show i35 < sz S 2 by omega))) rfl rfl rfl ⟨Nat.le_of_ble_eq_true rfl, Nat.le_of_ble_eq_true rfl⟩ rfl (Nat.le_of_ble_eq_true rfl) ⟨Nat.le_of_ble_eq_true rfl, Nat.le_of_ble_eq_true rfl⟩ (by decide +kernel) ?_
                            refine l_icmp_ne (off := 9) (tgt := 166) (by decide +kernel) (by decide) (fun zc157 => ?_) (fun zc157 => ?_)
                            · refine l_blk (pc' := 167) (loc' := [some (vR (7, 0, 0)), some (vI (spreadS S 1 (-6) (-6) 0)), some (vI ((inG S i19 (outF S i19) i35).2.2)), some (vI ((inG S i19 (outF S i19) i35).1)), some (vI ((inG S i19 (outF S i19) i35).2.1)), some (vI (nI i19)), some (vI (nI i35)), some (vI (lowF (rX S i19 i35) i114)), some (vI (highF (rX S i19 i35) i114)), some (vI ((ce S 2 i35 2) - (ce S 2 i19 2))), some (vI (nI i114)), none, none]) (st' := [vI (0 : Int32), vI (loadS S (nI i114))]) (B' := B) [(166, .iconst 0)] (by decide +kernel) rfl rfl ?_
                              exact l_st ((chg_0 zc140 zc157).symm) hm140
                            · refine l_blk (pc' := 167) (loc' := [some (vR (7, 0, 0)), some (vI (spreadS S 1 (-6) (-6) 0)), some (vI ((inG S i19 (outF S i19) i35).2.2)), some (vI ((inG S i19 (outF S i19) i35).1)), some (vI ((inG S i19 (outF S i19) i35).2.1)), some (vI (nI i19)), some (vI (nI i35)), some (vI (lowF (rX S i19 i35) i114)), some (vI (highF (rX S i19 i35) i114)), some (vI ((ce S 2 i35 2) - (ce S 2 i19 2))), some (vI (nI i114)), none, none]) (st' := [vI (-((ce S 2 i35 2) - (ce S 2 i19 2))), vI (loadS S (nI i114))]) (B' := B) [(160, .iload 9), (162, .ineg), (163, .goto 4)] (by decide +kernel) rfl rfl ?_
                              exact l_st ((chg_b zc140 zc157).symm) hm140
                          · refine l_blk (pc' := 167) (loc' := [some (vR (7, 0, 0)), some (vI (spreadS S 1 (-6) (-6) 0)), some (vI ((inG S i19 (outF S i19) i35).2.2)), some (vI ((inG S i19 (outF S i19) i35).1)), some (vI ((inG S i19 (outF S i19) i35).2.1)), some (vI (nI i19)), some (vI (nI i35)), some (vI (lowF (rX S i19 i35) i114)), some (vI (highF (rX S i19 i35) i114)), some (vI ((ce S 2 i35 2) - (ce S 2 i19 2))), some (vI (nI i114)), none, none]) (st' := [vI ((ce S 2 i35 2) - (ce S 2 i19 2)), vI (loadS S (nI i114))]) (B' := B) [(143, .iload 9), (145, .goto 22)] (by decide +kernel) rfl rfl ?_
                            exact l_st ((chg_a zc140).symm) hm140
                    exact l_sub (loc' := [some (vR (7, 0, 0)), some (vI (spreadS S 1 (-6) (-6) 0)), some (vI ((inG S i19 (outF S i19) i35).2.2)), some (vI ((inG S i19 (outF S i19) i35).1)), some (vI ((inG S i19 (outF S i19) i35).2.1)), some (vI (nI i19)), some (vI (nI i35)), some (vI (lowF (rX S i19 i35) 0)), some (vI (highF (rX S i19 i35) 0)), some (vI ((ce S 2 i35 2) - (ce S 2 i19 2))), some (vI (nI 0)), none, none]) ⟨Or.inr rfl, ⟨Or.inr rfl, ⟨Or.inr rfl, ⟨Or.inr rfl, ⟨Or.inr rfl, ⟨Or.inr rfl, ⟨Or.inr rfl, ⟨Or.inr rfl, ⟨Or.inr rfl, ⟨Or.inr rfl, ⟨Or.inr rfl, ⟨Or.inr rfl, ⟨Or.inr rfl, trivial⟩⟩⟩⟩⟩⟩⟩⟩⟩⟩⟩⟩⟩ (lp114 (sz S 0 + 1) 0 (by omega) (by omega))
                  · refine l_blk (pc' := 35) (loc' := [some (vR (7, 0, 0)), some (vI (spreadS S 1 (-6) (-6) 0)), some (vI ((inG S i19 (outF S i19) i35).2.2)), some (vI ((inG S i19 (outF S i19) i35).1)), some (vI ((inG S i19 (outF S i19) i35).2.1)), some (vI (nI i19)), some (vI ((nI i35) + (1 : Int32))), none, none, none, none, none, none]) (st' := []) (B' := B) [(84, .goto 162), (246, .iinc 6 1), (249, .goto (-214))] (by decide +kernel) rfl rfl ?_
                    exact l_sub (loc' := [some (vR (7, 0, 0)), some (vI (spreadS S 1 (-6) (-6) 0)), some (vI ((inG S i19 (outF S i19) (i35 + 1)).2.2)), some (vI ((inG S i19 (outF S i19) (i35 + 1)).1)), some (vI ((inG S i19 (outF S i19) (i35 + 1)).2.1)), some (vI (nI i19)), some (vI (nI (i35 + 1))), none, none, none, none, none, none]) ⟨Or.inr rfl, ⟨Or.inr rfl, ⟨Or.inr (congrArg (fun z => some (vI z)) (congrArg (fun z : P3 => z.2.2) (in_skip (by omega) (can_z hB (show i19 < sz S 2 by omega) (show i35 < sz S 2 by omega) (Or.inr (Or.inr zc81)))))), ⟨Or.inr (congrArg (fun z => some (vI z)) (congrArg (fun z : P3 => z.1) (in_skip (by omega) (can_z hB (show i19 < sz S 2 by omega) (show i35 < sz S 2 by omega) (Or.inr (Or.inr zc81)))))), ⟨Or.inr (congrArg (fun z => some (vI z)) (congrArg (fun z : P3 => z.2.1) (in_skip (by omega) (can_z hB (show i19 < sz S 2 by omega) (show i35 < sz S 2 by omega) (Or.inr (Or.inr zc81)))))), ⟨Or.inr rfl, ⟨Or.inr (congrArg (fun z => some (vI z)) (nI_1 _).symm), ⟨Or.inr rfl, ⟨Or.inr rfl, ⟨Or.inr rfl, ⟨Or.inr rfl, ⟨Or.inr rfl, ⟨Or.inr rfl, trivial⟩⟩⟩⟩⟩⟩⟩⟩⟩⟩⟩⟩⟩ (ih35 (i35 + 1) (by omega) (by omega) (by omega))
        exact l_sub (loc' := [some (vR (7, 0, 0)), some (vI (spreadS S 1 (-6) (-6) 0)), some (vI ((inG S i19 (outF S i19) (i19 + 1)).2.2)), some (vI ((inG S i19 (outF S i19) (i19 + 1)).1)), some (vI ((inG S i19 (outF S i19) (i19 + 1)).2.1)), some (vI (nI i19)), some (vI (nI (i19 + 1))), none, none, none, none, none, none]) ⟨Or.inr rfl, ⟨Or.inr rfl, ⟨Or.inr (congrArg (fun z => some (vI z)) (by rw [in_0])), ⟨Or.inr (congrArg (fun z => some (vI z)) (by rw [in_0])), ⟨Or.inr (congrArg (fun z => some (vI z)) (by rw [in_0])), ⟨Or.inr rfl, ⟨Or.inr (congrArg (fun z => some (vI z)) ((nI_1 _).symm)), ⟨Or.inr rfl, ⟨Or.inr rfl, ⟨Or.inr rfl, ⟨Or.inr rfl, ⟨Or.inr rfl, ⟨Or.inr rfl, trivial⟩⟩⟩⟩⟩⟩⟩⟩⟩⟩⟩⟩⟩ (lp35 (sz S 2 + 1) (i19 + 1) (by omega) (by omega) (by omega))
  exact l_sub (loc' := [some (vR (7, 0, 0)), some (vI (spreadS S 1 (-6) (-6) 0)), some (vI ((outF S 0).2.2)), some (vI ((outF S 0).1)), some (vI ((outF S 0).2.1)), some (vI (nI 0)), none, none, none, none, none, none, none]) ⟨Or.inr rfl, ⟨Or.inr rfl, ⟨Or.inr rfl, ⟨Or.inr rfl, ⟨Or.inr rfl, ⟨Or.inr rfl, ⟨Or.inr rfl, ⟨Or.inr rfl, ⟨Or.inr rfl, ⟨Or.inr rfl, ⟨Or.inr rfl, ⟨Or.inr rfl, ⟨Or.inr rfl, trivial⟩⟩⟩⟩⟩⟩⟩⟩⟩⟩⟩⟩⟩ (lp19 (sz S 2 + 1) 0 (by omega) (by omega))
