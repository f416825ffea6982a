/-! told() of the law -/
theorem J.pad {k : Nat} {S : HA} {Hs : List HA} {P Q : PV} (h : J k (S, (Hs, P))) : J k (S, (Hs, Q)) := h
def tellX (a b : Nat) : Int64 := ((((48 : Int32) + nI a).toInt64 <<< ((16 : Int32).toInt64 &&& 63)) ||| (11520 : Int64)) ||| ((48 : Int32) + nI b).toInt64
theorem tell_c : ∀ a, a < 9 → ∀ b, b < 9 → cntC 8 (tellX a b) 0 = 3 := by decide +kernel
theorem tell_r : ∀ a, a < 9 → ∀ b, b < 9 → (rdF (appF (tellX a b) 3 P0) 61 0 T0).1 = (if b < a then 2 else -6) ∧ (b < a ∨ ((rdF (appF (tellX a b) 3 P0) 61 0 T0).2.1 = 1 ∧ (rdF (appF (tellX a b) 3 P0) 61 0 T0).2.2 0 0 = nI a ∧ (rdF (appF (tellX a b) 3 P0) 61 0 T0).2.2 0 1 = nI b)) := by decide +kernel
theorem tell_put {S : HA} {Hs : List HA} {a b : Nat} (ha : a < 9) (hb : b < 9) : xput S Hs P0 (tellX a b) = (3, (S, (Hs, appF (tellX a b) 3 P0))) := by
  rw [xput, tell_c a ha b hb, if_pos (by decide), if_pos (by decide)]
  rfl
theorem tell_f2 {a b : Nat} (ha : a < 9) (hb : b < 9) (h : b < a) : xfault (appF (tellX a b) 3 P0) = 2 := by
  rw [xfault, (tell_r a ha b hb).1, if_pos h]
theorem tell_f6 {a b : Nat} (ha : a < 9) (hb : b < 9) (h : a ≤ b) : xfault (appF (tellX a b) 3 P0) = -6 := by
  rw [xfault, (tell_r a ha b hb).1, if_neg (by omega)]
theorem tell_l3 {S : HA} {Hs : List HA} {a b : Nat} (ha : a < 9) (hb : b < 9) (h : b < a) : xload S Hs (appF (tellX a b) 3 P0) = (-3, (S, (Hs, appF (tellX a b) 3 P0))) := by
  rw [xload, (tell_r a ha b hb).1, if_pos h, if_neg (by decide)]
def dueF (S : HA) (a : Nat) : Nat → Int32
  | 0 => 0
  | m + 1 => if ce S 2 (a + m) 3 = 0 then dueF S a m + 1 else dueF S a m + 0
theorem due_y {S : HA} {a m : Nat} (h : ce S 2 (a + m) 3 = 0) : dueF S a (m + 1) = dueF S a m + 1 := by rw [dueF, if_pos h]
theorem due_n {S : HA} {a m : Nat} (h : ¬ ce S 2 (a + m) 3 = 0) : dueF S a (m + 1) = dueF S a m + 0 := by rw [dueF, if_neg h]
theorem due_s {S : HA} {a : Nat} : ∀ m, dueF S a (m + 1) = (if ce S 2 a 3 = 0 then 1 else 0) + dueF S (a + 1) m
  | 0 => by
    rw [dueF, dueF, dueF, Nat.add_zero, Int32.add_zero]
    split <;> rfl
  | m + 1 => by
    rw [dueF, due_s m, dueF, show a + 1 + m = a + (m + 1) by omega]
    split
    · rw [Int32.add_assoc]
    · rw [Int32.add_assoc]
theorem dueF_eq {S S' : HA} {a : Nat} : ∀ m, (∀ u, a ≤ u → u < a + m → ce S' 2 u 3 = ce S 2 u 3) → dueF S' a m = dueF S a m
  | 0, _ => rfl
  | m + 1, h => by rw [dueF, dueF, dueF_eq m (fun u h1 h2 => h u h1 (by omega)), h (a + m) (by omega) (by omega)]
-- what a run of done()s makes
theorem fin_gl {n b : Nat} (hb : b < 2 ^ 31) : ∀ (k t : Nat) (S : HA), V S n → sz S 2 ≤ t + k →
    V (finG (nI b) k t S) n ∧ (∀ j, j ≠ 3 → sz (finG (nI b) k t S) j = sz S j) ∧ (∀ u, u < sz S 2 → t ≤ u → u ≤ b → ce (finG (nI b) k t S) 2 u 3 = 1) ∧ (∀ u c, c ≠ 3 → ce (finG (nI b) k t S) 2 u c = ce S 2 u c) ∧ (finG (nI b) k t S).2 7 = S.2 7 + dueF S t (min (b + 1) (sz S 2) - t) ∧ (∀ i, i ≠ 7 → (finG (nI b) k t S).2 i = S.2 i) ∧ (∀ u, u < t → ce (finG (nI b) k t S) 2 u 3 = ce S 2 u 3)
  | 0, t, S, hV, hk => by
    have h12 := hV.1.2.1.2.2.1
    refine ⟨hV, fun _ _ => rfl, fun u h1 h2 h3 => by omega, fun _ _ _ => rfl, ?_, fun _ _ => rfl, fun _ _ => rfl⟩
    rw [show min (b + 1) (sz S 2) - t = 0 by omega, finG, dueF, Int32.add_zero]
  | k + 1, t, S, hV, hk => by
    have hB := hV.1.2.1
    have h12 := hB.2.2.1
    rw [finG]
    by_cases q1 : nI b < nI t
    · rw [if_pos q1]
      have q1' : b < t := by
        by_cases q : b < t
        · exact q
        · exfalso
          rcases Nat.lt_or_ge t (2 ^ 31) with q2 | q2
          · exact q ((nI_ltI hb q2).mp q1)
          · omega
      refine ⟨hV, fun _ _ => rfl, fun u h1 h2 h3 => by omega, fun _ _ _ => rfl, ?_, fun _ _ => rfl, fun _ _ => rfl⟩
      rw [show min (b + 1) (sz S 2) - t = 0 by omega, dueF, Int32.add_zero]
    · rw [if_neg q1]
      by_cases q2 : sz S 2 ≤ t
      · rw [if_pos q2]
        refine ⟨hV, fun _ _ => rfl, fun u h1 h2 h3 => by omega, fun _ _ _ => rfl, ?_, fun _ _ => rfl, fun _ _ => rfl⟩
        rw [show min (b + 1) (sz S 2) - t = 0 by omega, dueF, Int32.add_zero]
      · rw [if_neg q2]
        have q1' : t ≤ b := by
          by_cases q : t ≤ b
          · exact q
          · exact absurd ((nI_ltI hb (by omega)).mpr (by omega)) q1
        have hm : min (b + 1) (sz S 2) - t = min (b + 1) (sz S 2) - (t + 1) + 1 := by omega
        have ho := open_n (S := S) (u := t) (by omega) (by omega)
        by_cases q3 : ce S 2 t 3 = 0
        · rw [if_pos q3] at ho
          rw [ho, if_neg (by decide)]
          obtain ⟨-, -, -, -, -, -, -, f1, -, f2, f3, f4⟩ := fin_ok (ed_fS hB) hV (show t < sz S 2 by omega) q3
          have s2 := f2 2 (by decide)
          obtain ⟨g1, g2, g3, g4, g5, g6, g7⟩ := fin_gl hb k (t + 1) (finS S (nI t)) f1 (by omega)
          rw [s2] at g3 g5
          have k3 : ∀ u, u ≠ t → ce (finS S (nI t)) 2 u 3 = ce S 2 u 3 := fun u hu => by rw [f3, if_neg (fun z => hu z.1)]
          refine ⟨g1, fun j hj => (g2 j hj).trans (f2 j hj), fun u h1 h2 h3 => ?_, fun u c hc => (g4 u c hc).trans (by rw [f3, if_neg (fun z => hc z.2)]), ?_, fun i hi => (g6 i hi).trans ((congrFun f4 i).trans (F_ne hi)), fun u hu => (g7 u (by omega)).trans (k3 u (by omega))⟩
          · by_cases qu : u = t
            · subst qu
              rw [g7 u (by omega), f3, if_pos ⟨rfl, rfl⟩]
            · exact g3 u h1 (by omega) h3
          · rw [g5, hm, due_s, if_pos q3, dueF_eq (S := S) _ (fun u h1 h2 => k3 u (by omega)), show (finS S (nI t)).2 7 = S.2 7 + 1 from (congrFun f4 7).trans F_at, Int32.add_assoc]
        · rw [if_neg q3] at ho
          rw [ho, if_pos rfl]
          obtain ⟨g1, g2, g3, g4, g5, g6, g7⟩ := fin_gl hb k (t + 1) S hV (by omega)
          refine ⟨g1, g2, fun u h1 h2 h3 => ?_, g4, ?_, g6, fun u hu => g7 u (by omega)⟩
          · by_cases qu : u = t
            · subst qu
              rw [g7 u (by omega)]
              exact (hV.2.2.2.1 u (by omega)).2.2.2.1.resolve_left q3
            · exact g3 u h1 (by omega) h3
          · rw [g5, hm, due_s, if_neg q3, Int32.zero_add]
theorem fin_ft {S : HA} {n a b : Nat} (hV : V S n) (hb : b < 2 ^ 31) : V (finFT S a (nI b)) n ∧ (∀ j, j ≠ 3 → sz (finFT S a (nI b)) j = sz S j) ∧ (∀ u, u < sz S 2 → a ≤ u → u ≤ b → ce (finFT S a (nI b)) 2 u 3 = 1) ∧ (∀ u c, c ≠ 3 → ce (finFT S a (nI b)) 2 u c = ce S 2 u c) ∧ (finFT S a (nI b)).2 7 = S.2 7 + dueF S a (min (b + 1) (sz S 2) - a) ∧ (finFT S a (nI b)).2 5 = S.2 5 := by
  obtain ⟨g1, g2, g3, g4, g5, g6, -⟩ := fin_gl hb (sz S 2) a S hV (by omega)
  exact ⟨g1, g2, g3, g4, g5, g6 5 (by decide)⟩
theorem add_back (x y : Int32) : x + y - x = y := by
  rw [Int32.sub_eq_add_neg, Int32.add_comm x, Int32.add_assoc, Int32.add_right_neg, Int32.add_zero]
theorem tell_l1 {S : HA} {Hs : List HA} {a b : Nat} {d : Int32} (ha : a < 9) (hb : b < 9) (h : a ≤ b) (q7 : (finFT S a (nI b)).2 7 = S.2 7 + d) : xload S Hs (appF (tellX a b) 3 P0) = (d, (finFT S a (nI b), (keepL Hs S, P0))) := by
  obtain ⟨h1, h2⟩ := tell_r a ha b hb
  obtain ⟨h3, h4, h5⟩ := h2.resolve_left (by omega)
  have e : loadS2 S (appF (tellX a b) 3 P0) = finFT S a (nI b) := by
    rw [loadS2, h3]
    show finFT S ((rdF (appF (tellX a b) 3 P0) 61 0 T0).2.2 0 0).toNatClampNeg ((rdF (appF (tellX a b) 3 P0) 61 0 T0).2.2 0 1) = _
    rw [h4, h5, nI_clamp (by omega)]
  rw [xload, h1, if_neg (show ¬ b < a by omega), if_pos rfl, e, q7, add_back]
set_option maxHeartbeats 4000000 in
theorem c_L_told (l : Launch) {S : HA} {Hs : List HA} {P : PV} {k : Nat} {v : Int32} (hJ : J k (S, (Hs, P)))  : LCon l (RL_ 7 0 0 224) yL_told cL_told 8 [vR (7, 0, 0), vI v] ((S, (Hs, P)) : XS) (fun v X' => v = 1 ∧ J (k + 1) X') := by
  refine lcon_of (by decide +kernel) rfl (Nat.le_of_ble_eq_true rfl) (fun B => ?_)
  show GL l (RL_ 7 0 0 224) cL_told 8 _ (KM (fun v X' => v = 1 ∧ J (k + 1) X') 0 0) 0 [] B [some (vR (7, 0, 0)), some (vI v), none, none, none, none, none, none] [] ((S, (Hs, P)) : XS) 0 0
  generalize hK : KM (fun v X' => v = 1 ∧ J (k + 1) X') 0 0 = K
  have hV : V S (720 * k) := hJ.1
  have hB := hV.1.2.1
  obtain ⟨b0, b1, b2, b3⟩ := id hB
  refine l_blk (pc' := 2) (loc' := [some (vR (7, 0, 0)), some (vI v), none, none, none, none, none, none]) (st' := [vI (3 : Int32), vR (7, 0, 0)]) (B' := B) [(0, .aload_n 0), (1, .iconst 3)] (by decide +kernel) rfl rfl ?_
  refine l_callV (nI (sz S 2)) ((S, (Hs, P)) : XS) [vI (3 : Int32)] [] vl_RL_60 mi_X4_count (k_count l (r_count3)) rfl rfl rfl ⟨Nat.le_of_ble_eq_true rfl, Nat.le_of_ble_eq_true rfl⟩ rfl (Nat.le_of_ble_eq_true rfl) ⟨Nat.le_of_ble_eq_true rfl, Nat.le_of_ble_eq_true rfl⟩ (by decide +kernel) ?_
  refine l_blk (pc' := 9) (loc' := [some (vR (7, 0, 0)), some (vI v), some (vI (nI (sz S 2))), none, none, none, none, none]) (st' := [vI (9 : Int32), vI v]) (B' := B) [(5, .istore_n 2), (6, .iload_n 1), (7, .bipush 9)] (by decide +kernel) rfl rfl ?_
  obtain ⟨u9, hu9, eu9, nu9⟩ := upV v 9 (by omega) (by omega)
  refine l_callS (nI u9) [vI v, vI (9 : Int32)] [] sl_RL_22 mi_L_up (k_up l nu9 eu9) rfl rfl ⟨Nat.le_of_ble_eq_true rfl, Nat.le_of_ble_eq_true rfl⟩ rfl (Nat.le_of_ble_eq_true rfl) ⟨Nat.le_of_ble_eq_true rfl, Nat.le_of_ble_eq_true rfl⟩ (by decide +kernel) ?_
  refine l_blk (pc' := 18) (loc' := [some (vR (7, 0, 0)), some (vI v), some (vI (nI (sz S 2))), some (vI (nI u9)), none, none, none, none]) (st' := [vI (9 : Int32), vI (v >>> ((5 : Int32) &&& 31))]) (B' := B) [(12, .istore_n 3), (13, .iload_n 1), (14, .iconst 5), (15, .ishr), (16, .bipush 9)] (by decide +kernel) rfl rfl ?_
  obtain ⟨u18, hu18, eu18, nu18⟩ := upV (v >>> ((5 : Int32) &&& 31)) 9 (by omega) (by omega)
  refine l_callS (nI u18) [vI (v >>> ((5 : Int32) &&& 31)), vI (9 : Int32)] [] sl_RL_22 mi_L_up (k_up l nu18 eu18) rfl rfl ⟨Nat.le_of_ble_eq_true rfl, Nat.le_of_ble_eq_true rfl⟩ rfl (Nat.le_of_ble_eq_true rfl) ⟨Nat.le_of_ble_eq_true rfl, Nat.le_of_ble_eq_true rfl⟩ (by decide +kernel) ?_
  refine l_blk (pc' := 25) (loc' := [some (vR (7, 0, 0)), some (vI v), some (vI (nI (sz S 2))), some (vI (nI u9)), some (vI (nI u18)), none, none, none]) (st' := [vI (5 : Int32), vR (7, 0, 0)]) (B' := B) [(21, .istore 4), (23, .aload_n 0), (24, .iconst 5)] (by decide +kernel) rfl rfl ?_
  refine l_callV (S.2 7) ((S, (Hs, P)) : XS) [vI (5 : Int32)] [] vl_RL_60 mi_X4_count (k_count l (r_count5)) rfl rfl rfl ⟨Nat.le_of_ble_eq_true rfl, Nat.le_of_ble_eq_true rfl⟩ rfl (Nat.le_of_ble_eq_true rfl) ⟨Nat.le_of_ble_eq_true rfl, Nat.le_of_ble_eq_true rfl⟩ (by decide +kernel) ?_
  refine l_blk (pc' := 36) (loc' := [some (vR (7, 0, 0)), some (vI v), some (vI (nI (sz S 2))), some (vI (nI u9)), some (vI (nI u18)), some (vI (S.2 7)), some (vI (0 : Int32)), some (vI (nI u9))]) (st' := []) (B' := B) [(28, .istore 5), (30, .iconst 0), (31, .istore 6), (33, .iload_n 3), (34, .istore 7)] (by decide +kernel) rfl rfl ?_
  have ko36 : GL l (RL_ 7 0 0 224) cL_told 8 (some .boolean) K 75 [] (B) [some (vR (7, 0, 0)), some (vI v), some (vI (nI (sz S 2))), some (vI (nI u9)), some (vI (nI u18)), some (vI (S.2 7)), some (vI (dueF S u9 (min (u18 + 1) (sz S 2) - u9))), none] [] ((S, (Hs, P)) : XS) 0 0 := by
    refine l_blk (pc' := 76) (loc' := [some (vR (7, 0, 0)), some (vI v), some (vI (nI (sz S 2))), some (vI (nI u9)), some (vI (nI u18)), some (vI (S.2 7)), some (vI (dueF S u9 (min (u18 + 1) (sz S 2) - u9))), none]) (st' := [vR (7, 0, 0)]) (B' := B) [(75, .aload_n 0)] (by decide +kernel) rfl rfl ?_
    refine l_callV (nI P.1) ((S, (Hs, P0)) : XS) [] [] vl_RL_118 mi_X4_wipe (k_wipe l (rfl)) rfl rfl rfl ⟨Nat.le_of_ble_eq_true rfl, Nat.le_of_ble_eq_true rfl⟩ rfl (Nat.le_of_ble_eq_true rfl) ⟨Nat.le_of_ble_eq_true rfl, Nat.le_of_ble_eq_true rfl⟩ (by decide +kernel) ?_
    refine l_blk (pc' := 89) (loc' := [some (vR (7, 0, 0)), some (vI v), some (vI (nI (sz S 2))), some (vI (nI u9)), some (vI (nI u18)), some (vI (S.2 7)), some (vI (dueF S u9 (min (u18 + 1) (sz S 2) - u9))), none]) (st' := [vL ((((48 : Int32) + (nI u9)).toInt64) <<< ((16 : Int32).toInt64 &&& 63)), vR (7, 0, 0)]) (B' := B) [(79, .pop), (80, .aload_n 0), (81, .bipush 48), (83, .iload_n 3), (84, .iadd), (85, .i2l), (86, .bipush 16), (88, .lshl)] (by decide +kernel) rfl rfl ?_
    refine l_ldc2 kl_RL_137 (by decide +kernel) ?_
    refine l_blk (pc' := 100) (loc' := [some (vR (7, 0, 0)), some (vI v), some (vI (nI (sz S 2))), some (vI (nI u9)), some (vI (nI u18)), some (vI (S.2 7)), some (vI (dueF S u9 (min (u18 + 1) (sz S 2) - u9))), none]) (st' := [vL ((((((48 : Int32) + (nI u9)).toInt64) <<< ((16 : Int32).toInt64 &&& 63)) ||| (11520 : Int64)) ||| (((48 : Int32) + (nI u18)).toInt64)), vR (7, 0, 0)]) (B' := B) [(92, .lor), (93, .bipush 48), (95, .iload 4), (97, .iadd), (98, .i2l), (99, .lor)] (by decide +kernel) rfl rfl ?_
    refine l_callV (3 : Int32) ((S, (Hs, (appF (tellX u9 u18) 3 P0))) : XS) [vL ((((((48 : Int32) + (nI u9)).toInt64) <<< ((16 : Int32).toInt64 &&& 63)) ||| (11520 : Int64)) ||| (((48 : Int32) + (nI u18)).toInt64))] [] vl_RL_123 mi_X4_put (k_put l (tell_put hu9 hu18)) rfl rfl rfl ⟨Nat.le_of_ble_eq_true rfl, Nat.le_of_ble_eq_true rfl⟩ rfl (Nat.le_of_ble_eq_true rfl) ⟨Nat.le_of_ble_eq_true rfl, Nat.le_of_ble_eq_true rfl⟩ (by decide +kernel) ?_
    refine l_blk (pc' := 107) (loc' := [some (vR (7, 0, 0)), some (vI v), some (vI (nI (sz S 2))), some (vI (nI u9)), some (vI (nI u18)), some (vI (S.2 7)), some (vI (dueF S u9 (min (u18 + 1) (sz S 2) - u9))), none]) (st' := [vI (nI u9), vI (nI u18)]) (B' := B) [(103, .pop), (104, .iload 4), (106, .iload_n 3)] (by decide +kernel) rfl rfl ?_
    refine l_icmp_ge (off := 34) (tgt := 141) (by decide +kernel) (by decide) (fun zc107 => ?_) (fun zc107 => ?_)
    · rw [nI_leI (by omega) (by omega)] at zc107
      refine l_blk (pc' := 142) (loc' := [some (vR (7, 0, 0)), some (vI v), some (vI (nI (sz S 2))), some (vI (nI u9)), some (vI (nI u18)), some (vI (S.2 7)), some (vI (dueF S u9 (min (u18 + 1) (sz S 2) - u9))), none]) (st' := [vR (7, 0, 0)]) (B' := B) [(141, .aload_n 0)] (by decide +kernel) rfl rfl ?_
      refine l_callV (-6 : Int32) ((S, (Hs, (appF (tellX u9 u18) 3 P0))) : XS) [] [] vl_RL_139 mi_X4_fault (k_fault l (tell_f6 hu9 hu18 zc107)) rfl rfl rfl ⟨Nat.le_of_ble_eq_true rfl, Nat.le_of_ble_eq_true rfl⟩ rfl (Nat.le_of_ble_eq_true rfl) ⟨Nat.le_of_ble_eq_true rfl, Nat.le_of_ble_eq_true rfl⟩ (by decide +kernel) ?_
      refine l_blk (pc' := 147) (loc' := [some (vR (7, 0, 0)), some (vI v), some (vI (nI (sz S 2))), some (vI (nI u9)), some (vI (nI u18)), some (vI (S.2 7)), some (vI (dueF S u9 (min (u18 + 1) (sz S 2) - u9))), none]) (st' := [vI (-6 : Int32), vI (-6 : Int32)]) (B' := B) [(145, .bipush (-6))] (by decide +kernel) rfl rfl ?_
      refine l_icmp_ne (off := 34) (tgt := 181) (by decide +kernel) (by decide) (fun zc147 => ?_) (fun zc147 => ?_)
      · exact absurd zc147 (by decide)
      · refine l_blk (pc' := 151) (loc' := [some (vR (7, 0, 0)), some (vI v), some (vI (nI (sz S 2))), some (vI (nI u9)), some (vI (nI u18)), some (vI (S.2 7)), some (vI (dueF S u9 (min (u18 + 1) (sz S 2) - u9))), none]) (st' := [vR (7, 0, 0)]) (B' := B) [(150, .aload_n 0)] (by decide +kernel) rfl rfl ?_
        obtain ⟨V1, z1, d1, f1, q7, q5⟩ := fin_ft (a := u9) (b := u18) hV (by omega)
        have hx := tell_l1 (S := S) (Hs := Hs) hu9 hu18 zc107 q7
        obtain ⟨S1, hS1⟩ : ∃ S1, finFT S u9 (nI u18) = S1 := ⟨_, rfl⟩
        rw [hS1] at V1 z1 d1 f1 q7 q5 hx
        have hB1 := V1.1.2.1
        have s0 := z1 0 (by decide)
        have s1 := z1 1 (by decide)
        have s2 := z1 2 (by decide)
        refine l_callV (dueF S u9 (min (u18 + 1) (sz S 2) - u9)) ((S1, (keepL Hs S, P0)) : XS) [] [] vl_RL_127 mi_X4_load (k_load l (hx)) rfl rfl rfl ⟨Nat.le_of_ble_eq_true rfl, Nat.le_of_ble_eq_true rfl⟩ rfl (Nat.le_of_ble_eq_true rfl) ⟨Nat.le_of_ble_eq_true rfl, Nat.le_of_ble_eq_true rfl⟩ (by decide +kernel) ?_
        refine l_blk (pc' := 156) (loc' := [some (vR (7, 0, 0)), some (vI v), some (vI (nI (sz S 2))), some (vI (nI u9)), some (vI (nI u18)), some (vI (S.2 7)), some (vI (dueF S u9 (min (u18 + 1) (sz S 2) - u9))), none]) (st' := [vI (dueF S u9 (min (u18 + 1) (sz S 2) - u9)), vI (dueF S u9 (min (u18 + 1) (sz S 2) - u9))]) (B' := B) [(154, .iload 6)] (by decide +kernel) rfl rfl ?_
        refine l_icmp_ne (off := 25) (tgt := 181) (by decide +kernel) (by decide) (fun zc156 => ?_) (fun zc156 => ?_)
        · exact absurd rfl zc156
        · refine l_blk (pc' := 162) (loc' := [some (vR (7, 0, 0)), some (vI v), some (vI (nI (sz S 2))), some (vI (nI u9)), some (vI (nI u18)), some (vI (S.2 7)), some (vI (dueF S u9 (min (u18 + 1) (sz S 2) - u9))), none]) (st' := [vI (11 : Int32), vR (7, 0, 0)]) (B' := B) [(159, .aload_n 0), (160, .bipush 11)] (by decide +kernel) rfl rfl ?_
          refine l_callV (nI P0.1) ((S1, (keepL Hs S, P0)) : XS) [vI (11 : Int32)] [] vl_RL_60 mi_X4_count (k_count l (r_count11)) rfl rfl rfl ⟨Nat.le_of_ble_eq_true rfl, Nat.le_of_ble_eq_true rfl⟩ rfl (Nat.le_of_ble_eq_true rfl) ⟨Nat.le_of_ble_eq_true rfl, Nat.le_of_ble_eq_true rfl⟩ (by decide +kernel) ?_
          refine l_if_ne (off := 16) (tgt := 181) (by decide +kernel) (by decide) (fun zc165 => ?_) (fun zc165 => ?_)
          · exact absurd zc165 (not_not_intro (show nI P0.1 = 0 from rfl))
          · refine l_blk (pc' := 170) (loc' := [some (vR (7, 0, 0)), some (vI v), some (vI (nI (sz S 2))), some (vI (nI u9)), some (vI (nI u18)), some (vI (S.2 7)), some (vI (dueF S u9 (min (u18 + 1) (sz S 2) - u9))), none]) (st' := [vI (5 : Int32), vR (7, 0, 0)]) (B' := B) [(168, .aload_n 0), (169, .iconst 5)] (by decide +kernel) rfl rfl ?_
            refine l_callV ((S.2 7) + (dueF S u9 (min (u18 + 1) (sz S 2) - u9))) ((S1, (keepL Hs S, P0)) : XS) [vI (5 : Int32)] [] vl_RL_60 mi_X4_count (k_count l ((r_count5).trans (q7))) rfl rfl rfl ⟨Nat.le_of_ble_eq_true rfl, Nat.le_of_ble_eq_true rfl⟩ rfl (Nat.le_of_ble_eq_true rfl) ⟨Nat.le_of_ble_eq_true rfl, Nat.le_of_ble_eq_true rfl⟩ (by decide +kernel) ?_
            refine l_blk (pc' := 178) (loc' := [some (vR (7, 0, 0)), some (vI v), some (vI (nI (sz S 2))), some (vI (nI u9)), some (vI (nI u18)), some (vI (S.2 7)), some (vI (dueF S u9 (min (u18 + 1) (sz S 2) - u9))), none]) (st' := [vI ((S.2 7) + (dueF S u9 (min (u18 + 1) (sz S 2) - u9))), vI ((S.2 7) + (dueF S u9 (min (u18 + 1) (sz S 2) - u9)))]) (B' := B) [(173, .iload 5), (175, .iload 6), (177, .iadd)] (by decide +kernel) rfl rfl ?_
            refine l_icmp_eq (off := 5) (tgt := 183) (by decide +kernel) (by decide) (fun zc178 => ?_) (fun zc178 => ?_)
            · refine l_blk (pc' := 186) (loc' := [some (vR (7, 0, 0)), some (vI v), some (vI (nI (sz S 2))), some (vI (nI u9)), some (vI (nI u18)), some (vI (S.2 7)), some (vI (dueF S u9 (min (u18 + 1) (sz S 2) - u9))), some (vI (nI u9))]) (st' := []) (B' := B) [(183, .iload_n 3), (184, .istore 7)] (by decide +kernel) rfl rfl ?_
              have ko186 : GL l (RL_ 7 0 0 224) cL_told 8 (some .boolean) K 218 [] (B) [some (vR (7, 0, 0)), some (vI v), some (vI (nI (sz S 2))), some (vI (nI u9)), some (vI (nI u18)), some (vI (S.2 7)), some (vI (dueF S u9 (min (u18 + 1) (sz S 2) - u9))), none] [] ((S1, (keepL Hs S, P0)) : XS) 0 0 := by
                refine l_blk (pc' := 219) (loc' := [some (vR (7, 0, 0)), some (vI v), some (vI (nI (sz S 2))), some (vI (nI u9)), some (vI (nI u18)), some (vI (S.2 7)), some (vI (dueF S u9 (min (u18 + 1) (sz S 2) - u9))), none]) (st' := [vI (1 : Int32)]) (B' := B) [(218, .iconst 1)] (by decide +kernel) rfl rfl ?_
                subst hK
                exact l_zret ⟨Nat.le_of_ble_eq_true rfl, Nat.le_of_ble_eq_true rfl⟩ (Or.inr rfl) (⟨rfl, J.pad (hJ.of (P := P) (V1.le (by omega)) s0 s1 q5)⟩) (by decide +kernel)
              have lp186 : ∀ (k186 m186 : Nat), m186 ≤ (min (u18 + 1) (sz S 2) - u9) → (min (u18 + 1) (sz S 2) - u9) < m186 + k186 → GL l (RL_ 7 0 0 224) cL_told 8 (some .boolean) K 186 [] (B) [some (vR (7, 0, 0)), some (vI v), some (vI (nI (sz S 2))), some (vI (nI u9)), some (vI (nI u18)), some (vI (S.2 7)), some (vI (dueF S u9 (min (u18 + 1) (sz S 2) - u9))), some (vI (nI (u9 + m186)))] [] ((S1, (keepL Hs S, P0)) : XS) 0 0 := by
                intro k186
                induction k186 with
                | zero =>
                  intro m186 hi186 hk186
                  exact absurd hk186 (by omega)
                | succ k186 ih186 =>
                  intro m186 hi186 hk186
                  refine l_blk (pc' := 190) (loc' := [some (vR (7, 0, 0)), some (vI v), some (vI (nI (sz S 2))), some (vI (nI u9)), some (vI (nI u18)), some (vI (S.2 7)), some (vI (dueF S u9 (min (u18 + 1) (sz S 2) - u9))), some (vI (nI (u9 + m186)))]) (st' := [vI (nI u18), vI (nI (u9 + m186))]) (B' := B) [(186, .iload 7), (188, .iload 4)] (by decide +kernel) rfl rfl ?_
                  refine l_icmp_gt (off := 28) (tgt := 218) (by decide +kernel) (by decide) (fun zc190 => ?_) (fun zc190 => ?_)
                  · rw [nI_ltI (by omega) (by omega)] at zc190
                    obtain rfl : m186 = (min (u18 + 1) (sz S 2) - u9) := by omega
                    exact l_sub (loc' := [some (vR (7, 0, 0)), some (vI v), some (vI (nI (sz S 2))), some (vI (nI u9)), some (vI (nI u18)), some (vI (S.2 7)), some (vI (dueF S u9 (min (u18 + 1) (sz S 2) - u9))), none]) ⟨Or.inr rfl, ⟨Or.inr rfl, ⟨Or.inr rfl, ⟨Or.inr rfl, ⟨Or.inr rfl, ⟨Or.inr rfl, ⟨Or.inr rfl, ⟨Or.inl rfl, trivial⟩⟩⟩⟩⟩⟩⟩⟩ ko186
                  · rw [nI_ltI (by omega) (by omega)] at zc190
                    refine l_blk (pc' := 196) (loc' := [some (vR (7, 0, 0)), some (vI v), some (vI (nI (sz S 2))), some (vI (nI u9)), some (vI (nI u18)), some (vI (S.2 7)), some (vI (dueF S u9 (min (u18 + 1) (sz S 2) - u9))), some (vI (nI (u9 + m186)))]) (st' := [vI (nI (sz S 2)), vI (nI (u9 + m186))]) (B' := B) [(193, .iload 7), (195, .iload_n 2)] (by decide +kernel) rfl rfl ?_
                    refine l_icmp_ge (off := 22) (tgt := 218) (by decide +kernel) (by decide) (fun zc196 => ?_) (fun zc196 => ?_)
                    · rw [nI_leI (by omega) (by omega)] at zc196
                      obtain rfl : m186 = (min (u18 + 1) (sz S 2) - u9) := by omega
                      exact l_sub (loc' := [some (vR (7, 0, 0)), some (vI v), some (vI (nI (sz S 2))), some (vI (nI u9)), some (vI (nI u18)), some (vI (S.2 7)), some (vI (dueF S u9 (min (u18 + 1) (sz S 2) - u9))), none]) ⟨Or.inr rfl, ⟨Or.inr rfl, ⟨Or.inr rfl, ⟨Or.inr rfl, ⟨Or.inr rfl, ⟨Or.inr rfl, ⟨Or.inr rfl, ⟨Or.inl rfl, trivial⟩⟩⟩⟩⟩⟩⟩⟩ ko186
                    · rw [nI_leI (by omega) (by omega)] at zc196
                      refine l_blk (pc' := 203) (loc' := [some (vR (7, 0, 0)), some (vI v), some (vI (nI (sz S 2))), some (vI (nI u9)), some (vI (nI u18)), some (vI (S.2 7)), some (vI (dueF S u9 (min (u18 + 1) (sz S 2) - u9))), some (vI (nI (u9 + m186)))]) (st' := [vI (3 : Int32), vI (nI (u9 + m186)), vR (7, 0, 0)]) (B' := B) [(199, .aload_n 0), (200, .iload 7), (202, .iconst 3)] (by decide +kernel) rfl rfl ?_
                      refine l_callV (ce S1 2 (u9 + m186) 3) ((S1, (keepL Hs S, P0)) : XS) [vI (nI (u9 + m186)), vI (3 : Int32)] [] vl_RL_107 mi_X4_task (k_task l (r_task3 hB1 (show u9 + m186 < sz S1 2 by omega))) rfl rfl rfl ⟨Nat.le_of_ble_eq_true rfl, Nat.le_of_ble_eq_true rfl⟩ rfl (Nat.le_of_ble_eq_true rfl) ⟨Nat.le_of_ble_eq_true rfl, Nat.le_of_ble_eq_true rfl⟩ (by decide +kernel) ?_
                      refine l_blk (pc' := 207) (loc' := [some (vR (7, 0, 0)), some (vI v), some (vI (nI (sz S 2))), some (vI (nI u9)), some (vI (nI u18)), some (vI (S.2 7)), some (vI (dueF S u9 (min (u18 + 1) (sz S 2) - u9))), some (vI (nI (u9 + m186)))]) (st' := [vI (1 : Int32), vI (ce S1 2 (u9 + m186) 3)]) (B' := B) [(206, .iconst 1)] (by decide +kernel) rfl rfl ?_
                      refine l_icmp_eq (off := 5) (tgt := 212) (by decide +kernel) (by decide) (fun zc207 => ?_) (fun zc207 => ?_)
                      · refine l_blk (pc' := 186) (loc' := [some (vR (7, 0, 0)), some (vI v), some (vI (nI (sz S 2))), some (vI (nI u9)), some (vI (nI u18)), some (vI (S.2 7)), some (vI (dueF S u9 (min (u18 + 1) (sz S 2) - u9))), some (vI ((nI (u9 + m186)) + (1 : Int32)))]) (st' := []) (B' := B) [(212, .iinc 7 1), (215, .goto (-29))] (by decide +kernel) rfl rfl ?_
                        exact l_sub (loc' := [some (vR (7, 0, 0)), some (vI v), some (vI (nI (sz S 2))), some (vI (nI u9)), some (vI (nI u18)), some (vI (S.2 7)), some (vI (dueF S u9 (min (u18 + 1) (sz S 2) - u9))), some (vI (nI (u9 + (m186 + 1))))]) ⟨Or.inr rfl, ⟨Or.inr rfl, ⟨Or.inr rfl, ⟨Or.inr rfl, ⟨Or.inr rfl, ⟨Or.inr rfl, ⟨Or.inr rfl, ⟨Or.inr (congrArg (fun z => some (vI z)) ((nI_1 _).symm)), trivial⟩⟩⟩⟩⟩⟩⟩⟩ (ih186 (m186 + 1) (by omega) (by omega))
                      · exact absurd (d1 (u9 + m186) (by omega) (by omega) (by omega)) zc207
              exact l_sub (loc' := [some (vR (7, 0, 0)), some (vI v), some (vI (nI (sz S 2))), some (vI (nI u9)), some (vI (nI u18)), some (vI (S.2 7)), some (vI (dueF S u9 (min (u18 + 1) (sz S 2) - u9))), some (vI (nI (u9 + 0)))]) ⟨Or.inr rfl, ⟨Or.inr rfl, ⟨Or.inr rfl, ⟨Or.inr rfl, ⟨Or.inr rfl, ⟨Or.inr rfl, ⟨Or.inr rfl, ⟨Or.inr rfl, trivial⟩⟩⟩⟩⟩⟩⟩⟩ (lp186 ((min (u18 + 1) (sz S 2) - u9) + 1) 0 (by omega) (by omega))
            · exact absurd rfl zc178
    · rw [nI_leI (by omega) (by omega)] at zc107
      refine l_blk (pc' := 111) (loc' := [some (vR (7, 0, 0)), some (vI v), some (vI (nI (sz S 2))), some (vI (nI u9)), some (vI (nI u18)), some (vI (S.2 7)), some (vI (dueF S u9 (min (u18 + 1) (sz S 2) - u9))), none]) (st' := [vR (7, 0, 0)]) (B' := B) [(110, .aload_n 0)] (by decide +kernel) rfl rfl ?_
      refine l_callV (2 : Int32) ((S, (Hs, (appF (tellX u9 u18) 3 P0))) : XS) [] [] vl_RL_139 mi_X4_fault (k_fault l (tell_f2 hu9 hu18 (by omega))) rfl rfl rfl ⟨Nat.le_of_ble_eq_true rfl, Nat.le_of_ble_eq_true rfl⟩ rfl (Nat.le_of_ble_eq_true rfl) ⟨Nat.le_of_ble_eq_true rfl, Nat.le_of_ble_eq_true rfl⟩ (by decide +kernel) ?_
      refine l_blk (pc' := 115) (loc' := [some (vR (7, 0, 0)), some (vI v), some (vI (nI (sz S 2))), some (vI (nI u9)), some (vI (nI u18)), some (vI (S.2 7)), some (vI (dueF S u9 (min (u18 + 1) (sz S 2) - u9))), none]) (st' := [vI (2 : Int32), vI (2 : Int32)]) (B' := B) [(114, .iconst 2)] (by decide +kernel) rfl rfl ?_
      refine l_icmp_ne (off := 24) (tgt := 139) (by decide +kernel) (by decide) (fun zc115 => ?_) (fun zc115 => ?_)
      · exact absurd zc115 (by decide)
      · refine l_blk (pc' := 119) (loc' := [some (vR (7, 0, 0)), some (vI v), some (vI (nI (sz S 2))), some (vI (nI u9)), some (vI (nI u18)), some (vI (S.2 7)), some (vI (dueF S u9 (min (u18 + 1) (sz S 2) - u9))), none]) (st' := [vR (7, 0, 0)]) (B' := B) [(118, .aload_n 0)] (by decide +kernel) rfl rfl ?_
        refine l_callV (-3 : Int32) ((S, (Hs, (appF (tellX u9 u18) 3 P0))) : XS) [] [] vl_RL_127 mi_X4_load (k_load l (tell_l3 hu9 hu18 (by omega))) rfl rfl rfl ⟨Nat.le_of_ble_eq_true rfl, Nat.le_of_ble_eq_true rfl⟩ rfl (Nat.le_of_ble_eq_true rfl) ⟨Nat.le_of_ble_eq_true rfl, Nat.le_of_ble_eq_true rfl⟩ (by decide +kernel) ?_
        refine l_blk (pc' := 124) (loc' := [some (vR (7, 0, 0)), some (vI v), some (vI (nI (sz S 2))), some (vI (nI u9)), some (vI (nI u18)), some (vI (S.2 7)), some (vI (dueF S u9 (min (u18 + 1) (sz S 2) - u9))), none]) (st' := [vI (-3 : Int32), vI (-3 : Int32)]) (B' := B) [(122, .bipush (-3))] (by decide +kernel) rfl rfl ?_
        refine l_icmp_ne (off := 15) (tgt := 139) (by decide +kernel) (by decide) (fun zc124 => ?_) (fun zc124 => ?_)
        · exact absurd zc124 (by decide)
        · refine l_blk (pc' := 128) (loc' := [some (vR (7, 0, 0)), some (vI v), some (vI (nI (sz S 2))), some (vI (nI u9)), some (vI (nI u18)), some (vI (S.2 7)), some (vI (dueF S u9 (min (u18 + 1) (sz S 2) - u9))), none]) (st' := [vR (7, 0, 0)]) (B' := B) [(127, .aload_n 0)] (by decide +kernel) rfl rfl ?_
          refine l_callV (3 : Int32) ((S, (Hs, P0)) : XS) [] [] vl_RL_118 mi_X4_wipe (k_wipe l (rfl)) rfl rfl rfl ⟨Nat.le_of_ble_eq_true rfl, Nat.le_of_ble_eq_true rfl⟩ rfl (Nat.le_of_ble_eq_true rfl) ⟨Nat.le_of_ble_eq_true rfl, Nat.le_of_ble_eq_true rfl⟩ (by decide +kernel) ?_
          refine l_blk (pc' := 132) (loc' := [some (vR (7, 0, 0)), some (vI v), some (vI (nI (sz S 2))), some (vI (nI u9)), some (vI (nI u18)), some (vI (S.2 7)), some (vI (dueF S u9 (min (u18 + 1) (sz S 2) - u9))), none]) (st' := [vI (3 : Int32), vI (3 : Int32)]) (B' := B) [(131, .iconst 3)] (by decide +kernel) rfl rfl ?_
          refine l_icmp_ne (off := 7) (tgt := 139) (by decide +kernel) (by decide) (fun zc132 => ?_) (fun zc132 => ?_)
          · exact absurd zc132 (by decide)
          · refine l_blk (pc' := 140) (loc' := [some (vR (7, 0, 0)), some (vI v), some (vI (nI (sz S 2))), some (vI (nI u9)), some (vI (nI u18)), some (vI (S.2 7)), some (vI (dueF S u9 (min (u18 + 1) (sz S 2) - u9))), none]) (st' := [vI (1 : Int32)]) (B' := B) [(135, .iconst 1), (136, .goto 4)] (by decide +kernel) rfl rfl ?_
            subst hK
            exact l_zret ⟨Nat.le_of_ble_eq_true rfl, Nat.le_of_ble_eq_true rfl⟩ (Or.inr rfl) (⟨rfl, J.pad hJ.up⟩) (by decide +kernel)
  have lp36 : ∀ (k36 m36 : Nat), m36 ≤ (min (u18 + 1) (sz S 2) - u9) → (min (u18 + 1) (sz S 2) - u9) < m36 + k36 → GL l (RL_ 7 0 0 224) cL_told 8 (some .boolean) K 36 [] (B) [some (vR (7, 0, 0)), some (vI v), some (vI (nI (sz S 2))), some (vI (nI u9)), some (vI (nI u18)), some (vI (S.2 7)), some (vI (dueF S u9 m36)), some (vI (nI (u9 + m36)))] [] ((S, (Hs, P)) : XS) 0 0 := by
    intro k36
    induction k36 with
    | zero =>
      intro m36 hi36 hk36
      exact absurd hk36 (by omega)
    | succ k36 ih36 =>
      intro m36 hi36 hk36
      refine l_blk (pc' := 40) (loc' := [some (vR (7, 0, 0)), some (vI v), some (vI (nI (sz S 2))), some (vI (nI u9)), some (vI (nI u18)), some (vI (S.2 7)), some (vI (dueF S u9 m36)), some (vI (nI (u9 + m36)))]) (st' := [vI (nI u18), vI (nI (u9 + m36))]) (B' := B) [(36, .iload 7), (38, .iload 4)] (by decide +kernel) rfl rfl ?_
      refine l_icmp_gt (off := 35) (tgt := 75) (by decide +kernel) (by decide) (fun zc40 => ?_) (fun zc40 => ?_)
      · rw [nI_ltI (by omega) (by omega)] at zc40
        obtain rfl : m36 = (min (u18 + 1) (sz S 2) - u9) := by omega
        exact l_sub (loc' := [some (vR (7, 0, 0)), some (vI v), some (vI (nI (sz S 2))), some (vI (nI u9)), some (vI (nI u18)), some (vI (S.2 7)), some (vI (dueF S u9 (min (u18 + 1) (sz S 2) - u9))), none]) ⟨Or.inr rfl, ⟨Or.inr rfl, ⟨Or.inr rfl, ⟨Or.inr rfl, ⟨Or.inr rfl, ⟨Or.inr rfl, ⟨Or.inr rfl, ⟨Or.inl rfl, trivial⟩⟩⟩⟩⟩⟩⟩⟩ ko36
      · rw [nI_ltI (by omega) (by omega)] at zc40
        refine l_blk (pc' := 46) (loc' := [some (vR (7, 0, 0)), some (vI v), some (vI (nI (sz S 2))), some (vI (nI u9)), some (vI (nI u18)), some (vI (S.2 7)), some (vI (dueF S u9 m36)), some (vI (nI (u9 + m36)))]) (st' := [vI (nI (sz S 2)), vI (nI (u9 + m36))]) (B' := B) [(43, .iload 7), (45, .iload_n 2)] (by decide +kernel) rfl rfl ?_
        refine l_icmp_ge (off := 29) (tgt := 75) (by decide +kernel) (by decide) (fun zc46 => ?_) (fun zc46 => ?_)
        · rw [nI_leI (by omega) (by omega)] at zc46
          obtain rfl : m36 = (min (u18 + 1) (sz S 2) - u9) := by omega
          exact l_sub (loc' := [some (vR (7, 0, 0)), some (vI v), some (vI (nI (sz S 2))), some (vI (nI u9)), some (vI (nI u18)), some (vI (S.2 7)), some (vI (dueF S u9 (min (u18 + 1) (sz S 2) - u9))), none]) ⟨Or.inr rfl, ⟨Or.inr rfl, ⟨Or.inr rfl, ⟨Or.inr rfl, ⟨Or.inr rfl, ⟨Or.inr rfl, ⟨Or.inr rfl, ⟨Or.inl rfl, trivial⟩⟩⟩⟩⟩⟩⟩⟩ ko36
        · rw [nI_leI (by omega) (by omega)] at zc46
          refine l_blk (pc' := 55) (loc' := [some (vR (7, 0, 0)), some (vI v), some (vI (nI (sz S 2))), some (vI (nI u9)), some (vI (nI u18)), some (vI (S.2 7)), some (vI (dueF S u9 m36)), some (vI (nI (u9 + m36)))]) (st' := [vI (3 : Int32), vI (nI (u9 + m36)), vR (7, 0, 0), vI (dueF S u9 m36)]) (B' := B) [(49, .iload 6), (51, .aload_n 0), (52, .iload 7), (54, .iconst 3)] (by decide +kernel) rfl rfl ?_
          refine l_callV (ce S 2 (u9 + m36) 3) ((S, (Hs, P)) : XS) [vI (nI (u9 + m36)), vI (3 : Int32)] [vI (dueF S u9 m36)] vl_RL_107 mi_X4_task (k_task l (r_task3 hB (show u9 + m36 < sz S 2 by omega))) rfl rfl rfl ⟨Nat.le_of_ble_eq_true rfl, Nat.le_of_ble_eq_true rfl⟩ rfl (Nat.le_of_ble_eq_true rfl) ⟨Nat.le_of_ble_eq_true rfl, Nat.le_of_ble_eq_true rfl⟩ (by decide +kernel) ?_
          refine l_if_ne (off := 7) (tgt := 65) (by decide +kernel) (by decide) (fun zc58 => ?_) (fun zc58 => ?_)
          · refine l_blk (pc' := 36) (loc' := [some (vR (7, 0, 0)), some (vI v), some (vI (nI (sz S 2))), some (vI (nI u9)), some (vI (nI u18)), some (vI (S.2 7)), some (vI ((dueF S u9 m36) + (0 : Int32))), some (vI ((nI (u9 + m36)) + (1 : Int32)))]) (st' := []) (B' := B) [(65, .iconst 0), (66, .iadd), (67, .istore 6), (69, .iinc 7 1), (72, .goto (-36))] (by decide +kernel) rfl rfl ?_
            exact l_sub (loc' := [some (vR (7, 0, 0)), some (vI v), some (vI (nI (sz S 2))), some (vI (nI u9)), some (vI (nI u18)), some (vI (S.2 7)), some (vI (dueF S u9 (m36 + 1))), some (vI (nI (u9 + (m36 + 1))))]) ⟨Or.inr rfl, ⟨Or.inr rfl, ⟨Or.inr rfl, ⟨Or.inr rfl, ⟨Or.inr rfl, ⟨Or.inr rfl, ⟨Or.inr (congrArg (fun z => some (vI z)) (due_n zc58)), ⟨Or.inr (congrArg (fun z => some (vI z)) ((nI_1 _).symm)), trivial⟩⟩⟩⟩⟩⟩⟩⟩ (ih36 (m36 + 1) (by omega) (by omega))
          · refine l_blk (pc' := 36) (loc' := [some (vR (7, 0, 0)), some (vI v), some (vI (nI (sz S 2))), some (vI (nI u9)), some (vI (nI u18)), some (vI (S.2 7)), some (vI ((dueF S u9 m36) + (1 : Int32))), some (vI ((nI (u9 + m36)) + (1 : Int32)))]) (st' := []) (B' := B) [(61, .iconst 1), (62, .goto 4), (66, .iadd), (67, .istore 6), (69, .iinc 7 1), (72, .goto (-36))] (by decide +kernel) rfl rfl ?_
            exact l_sub (loc' := [some (vR (7, 0, 0)), some (vI v), some (vI (nI (sz S 2))), some (vI (nI u9)), some (vI (nI u18)), some (vI (S.2 7)), some (vI (dueF S u9 (m36 + 1))), some (vI (nI (u9 + (m36 + 1))))]) ⟨Or.inr rfl, ⟨Or.inr rfl, ⟨Or.inr rfl, ⟨Or.inr rfl, ⟨Or.inr rfl, ⟨Or.inr rfl, ⟨Or.inr (congrArg (fun z => some (vI z)) (due_y zc58)), ⟨Or.inr (congrArg (fun z => some (vI z)) ((nI_1 _).symm)), trivial⟩⟩⟩⟩⟩⟩⟩⟩ (ih36 (m36 + 1) (by omega) (by omega))
  exact l_sub (loc' := [some (vR (7, 0, 0)), some (vI v), some (vI (nI (sz S 2))), some (vI (nI u9)), some (vI (nI u18)), some (vI (S.2 7)), some (vI (dueF S u9 0)), some (vI (nI (u9 + 0)))]) ⟨Or.inr rfl, ⟨Or.inr rfl, ⟨Or.inr rfl, ⟨Or.inr rfl, ⟨Or.inr rfl, ⟨Or.inr rfl, ⟨Or.inr rfl, ⟨Or.inr rfl, trivial⟩⟩⟩⟩⟩⟩⟩⟩ (lp36 ((min (u18 + 1) (sz S 2) - u9) + 1) 0 (by omega) (by omega))
