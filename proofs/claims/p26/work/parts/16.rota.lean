/-! THE ROTA: contracts of the public methods (laid by wip/p26/mk16.py) -/
theorem full_lt {S : HA} {j : Nat} (h : fullS S j = 0) : sz S j < mst j := by
  rcases Nat.lt_or_ge (sz S j) (mst j) with q | q
  · exact q
  · rw [fullS, if_pos q] at h
    exact absurd h (by decide)
theorem has_ex {x : Int32} {n : Nat} (hn : n < 2 ^ 31) (h : ¬ hasT x n = 0) : ∃ r, r < n ∧ x = nI r := by
  rcases pk_ix x hn with q | q | q
  · exact absurd (hasT_out (out_lo q)) h
  · exact absurd (hasT_out (out_hi hn q)) h
  · exact q
theorem give_6 : ∀ (k t : Nat) (S : HA), (giveF k t S).2 = S.2
  | 0, _, _ => rfl
  | k + 1, t, S => by rw [giveF, give_6 k (t + 1)]; rfl
theorem mk_6 : ∀ (k : Nat) (S : HA) (f : Int32), (mkS k S f).2 = S.2
  | 0, _, _ => rfl
  | k + 1, S, f => by
    rw [mkS]
    split
    · rfl
    · simp only
      rw [mk_6 k]
      split <;> rfl
theorem plan_6 (S : HA) : (planS S).2 6 = 1 := by
  unfold planS
  simp only
  split
  · rfl
  · rw [give_6, mk_6]; rfl
theorem inv_plan (S : HA) : HInv (planS S) := ⟨Or.inr (plan_6 S), fun h => by rw [plan_6] at h; exact absurd h (by decide)⟩
theorem fin_6 (S : HA) (t : Int32) : (finS S t).2 6 = S.2 6 := by
  unfold finS dropS setT
  simp only
  split <;> rfl
theorem inv_fin {S : HA} (h : HInv S) (t : Int32) : HInv (finS S t) := inv_same h (fin_6 S t) (sz_fin S t)
theorem grow_2 : ∀ (k a : Nat) (S : HA), sz (growF k a S) 2 = sz S 2
  | 0, _, _ => rfl
  | k + 1, a, S => by rw [growF, grow_2 k]; rfl
theorem decay_2 (d : Int32) : ∀ (k a : Nat) (S : HA), sz (decayF d k a S) 2 = sz S 2
  | 0, _, _ => rfl
  | k + 1, a, S => by rw [decayF, decay_2 d k]; rfl
theorem end_2 (S : HA) : sz (endS S) 2 = 0 := by
  unfold endS endR
  simp only
  show sz (growF _ _ _) 2 = 0
  rw [grow_2, decay_2]
  rfl
theorem end_6 (S : HA) : (endS S).2 6 = 0 := rfl
theorem inv_end (S : HA) : HInv (endS S) := ⟨Or.inl (end_6 S), fun _ => end_2 S⟩
set_option maxHeartbeats 2000000 in
theorem c_X4_isWeight (l : Launch) {σ : Sg}  (w : Int32) : Con l 1 yX4_isWeight cX4_isWeight 1 (some .boolean) [vI w] σ (pureP (isInS w 1 10) σ) := by
  refine con_of pn_X4_isWeight (Nat.le_of_ble_eq_true rfl) (fun hPK hok => ?_)
  show G l (Rm 1) RX4 cX4_isWeight 1 (some .boolean) _ 0 [some (vI w)] [] σ
  refine g_blk (pc' := 4) (loc' := [some (vI w)]) (st' := [vI (10 : Int32), vI (1 : Int32), vI w]) (σ' := σ) fl4_ok [(0, .iload_n 0), (1, .iconst 1), (2, .bipush 10)] (by decide +kernel) rfl rfl ?_
  refine g_callSp [vI w, vI (1 : Int32), vI (10 : Int32)] [] sl_RX4_62 mi_X4_isIn (c_X4_isIn l w (1 : Int32) (10 : Int32)) rfl ⟨Nat.le_of_ble_eq_true rfl, Nat.le_of_ble_eq_true rfl⟩ rfl (Nat.le_of_ble_eq_true rfl) (by decide +kernel) ?_
  exact g_zret (by decide +kernel) (isInS_bit _ _ _) (by exact ⟨rfl, rfl⟩)
set_option maxHeartbeats 2000000 in
theorem c_X4_isSettingValue (l : Launch) {σ : Sg}  (s v : Int32) : Con l 1 yX4_isSettingValue cX4_isSettingValue 2 (some .boolean) [vI s, vI v] σ (pureP (setOkS s v) σ) := by
  refine con_of pn_X4_isSettingValue (Nat.le_of_ble_eq_true rfl) (fun hPK hok => ?_)
  show G l (Rm 1) RX4 cX4_isSettingValue 2 (some .boolean) _ 0 [some (vI s), some (vI v)] [] σ
  refine g_blk (pc' := 1) (loc' := [some (vI s), some (vI v)]) (st' := [vI s]) (σ' := σ) fl4_ok [(0, .iload_n 0)] (by decide +kernel) rfl rfl ?_
  rcases pk_ix s (n := 4) (by decide) with zq | zq | ⟨j, hj, rfl⟩
  · refine g_tabO (dflt := 64) (lo := 0) (hi := 3) (offs := #[31, 39, 47, 55]) (len := 31) (tgt := 65) (by decide +kernel) (Or.inl (tab_lo zq)) (by decide) ?_
    refine g_blk (pc' := 66) (loc' := [some (vI s), some (vI v)]) (st' := [vI (0 : Int32)]) (σ' := σ) fl4_ok [(65, .iconst 0)] (by decide +kernel) rfl rfl ?_
    exact g_zret (by decide +kernel) (Or.inl rfl) (by rw [setOkS, sw_lo zq]; exact ⟨rfl, rfl⟩)
  · refine g_tabO (dflt := 64) (lo := 0) (hi := 3) (offs := #[31, 39, 47, 55]) (len := 31) (tgt := 65) (by decide +kernel) (Or.inr (tab_hi 3 (by decide) zq)) (by decide) ?_
    refine g_blk (pc' := 66) (loc' := [some (vI s), some (vI v)]) (st' := [vI (0 : Int32)]) (σ' := σ) fl4_ok [(65, .iconst 0)] (by decide +kernel) rfl rfl ?_
    exact g_zret (by decide +kernel) (Or.inl rfl) (by rw [setOkS, sw_hi zq]; exact ⟨rfl, rfl⟩)
  · match j, hj with
    | 0, hj =>
      refine g_tabI (dflt := 64) (lo := 0) (hi := 3) (offs := #[31, 39, 47, 55]) (len := 31) (off := 31) (tgt := 32) (by decide +kernel) (by decide) (by decide) rfl (by decide) ?_
      refine g_blk (pc' := 36) (loc' := [some (vI (nI 0)), some (vI v)]) (st' := [vI (100 : Int32), vI (0 : Int32), vI v]) (σ' := σ) fl4_ok [(32, .iload_n 1), (33, .iconst 0), (34, .bipush 100)] (by decide +kernel) rfl rfl ?_
      refine g_callSp [vI v, vI (0 : Int32), vI (100 : Int32)] [] sl_RX4_62 mi_X4_isIn (c_X4_isIn l v (0 : Int32) (100 : Int32)) rfl ⟨Nat.le_of_ble_eq_true rfl, Nat.le_of_ble_eq_true rfl⟩ rfl (Nat.le_of_ble_eq_true rfl) (by decide +kernel) ?_
      exact g_zret (by decide +kernel) (isInS_bit _ _ _) (by rw [setOkS, sw_in (by decide) hj]; exact ⟨rfl, rfl⟩)
    | 1, hj =>
      refine g_tabI (dflt := 64) (lo := 0) (hi := 3) (offs := #[31, 39, 47, 55]) (len := 31) (off := 39) (tgt := 40) (by decide +kernel) (by decide) (by decide) rfl (by decide) ?_
      refine g_blk (pc' := 44) (loc' := [some (vI (nI 1)), some (vI v)]) (st' := [vI (100 : Int32), vI (0 : Int32), vI v]) (σ' := σ) fl4_ok [(40, .iload_n 1), (41, .iconst 0), (42, .bipush 100)] (by decide +kernel) rfl rfl ?_
      refine g_callSp [vI v, vI (0 : Int32), vI (100 : Int32)] [] sl_RX4_62 mi_X4_isIn (c_X4_isIn l v (0 : Int32) (100 : Int32)) rfl ⟨Nat.le_of_ble_eq_true rfl, Nat.le_of_ble_eq_true rfl⟩ rfl (Nat.le_of_ble_eq_true rfl) (by decide +kernel) ?_
      exact g_zret (by decide +kernel) (isInS_bit _ _ _) (by rw [setOkS, sw_in (by decide) hj]; exact ⟨rfl, rfl⟩)
    | 2, hj =>
      refine g_tabI (dflt := 64) (lo := 0) (hi := 3) (offs := #[31, 39, 47, 55]) (len := 31) (off := 47) (tgt := 48) (by decide +kernel) (by decide) (by decide) rfl (by decide) ?_
      refine g_blk (pc' := 52) (loc' := [some (vI (nI 2)), some (vI v)]) (st' := [vI (6 : Int32), vI (2 : Int32), vI v]) (σ' := σ) fl4_ok [(48, .iload_n 1), (49, .iconst 2), (50, .bipush 6)] (by decide +kernel) rfl rfl ?_
      refine g_callSp [vI v, vI (2 : Int32), vI (6 : Int32)] [] sl_RX4_62 mi_X4_isIn (c_X4_isIn l v (2 : Int32) (6 : Int32)) rfl ⟨Nat.le_of_ble_eq_true rfl, Nat.le_of_ble_eq_true rfl⟩ rfl (Nat.le_of_ble_eq_true rfl) (by decide +kernel) ?_
      exact g_zret (by decide +kernel) (isInS_bit _ _ _) (by rw [setOkS, sw_in (by decide) hj]; exact ⟨rfl, rfl⟩)
    | 3, hj =>
      refine g_tabI (dflt := 64) (lo := 0) (hi := 3) (offs := #[31, 39, 47, 55]) (len := 31) (off := 55) (tgt := 56) (by decide +kernel) (by decide) (by decide) rfl (by decide) ?_
      refine g_blk (pc' := 61) (loc' := [some (vI (nI 3)), some (vI v)]) (st' := [vI (1000 : Int32), vI (1 : Int32), vI v]) (σ' := σ) fl4_ok [(56, .iload_n 1), (57, .iconst 1), (58, .sipush 1000)] (by decide +kernel) rfl rfl ?_
      refine g_callSp [vI v, vI (1 : Int32), vI (1000 : Int32)] [] sl_RX4_62 mi_X4_isIn (c_X4_isIn l v (1 : Int32) (1000 : Int32)) rfl ⟨Nat.le_of_ble_eq_true rfl, Nat.le_of_ble_eq_true rfl⟩ rfl (Nat.le_of_ble_eq_true rfl) (by decide +kernel) ?_
      exact g_zret (by decide +kernel) (isInS_bit _ _ _) (by rw [setOkS, sw_in (by decide) hj]; exact ⟨rfl, rfl⟩)
    | j + 4, hj => exact absurd hj (by omega)
set_option maxHeartbeats 2000000 in
theorem c_X4_resident (l : Launch) {σ : Sg} (hX : XOK σ) (w : Int32)  : Con l 4 yX4_resident cX4_resident 2 (some .int) [vR (7, 0, 0), vI w] σ (fun o σ' => o = some (vI (xresident (habs σ 0) (hist σ) (pv σ) w).1) ∧ XW (xresident (habs σ 0) (hist σ) (pv σ) w).2 σ σ') := by
  refine con_of pn_X4_resident (Nat.le_of_ble_eq_true rfl) (fun hPK hok => ?_)
  show G l (Rm 4) RX4 cX4_resident 2 (some .int) _ 0 [some (vR (7, 0, 0)), some (vI w)] [] σ
  obtain ⟨x0, x1, x2, x3, x4, x5, x6⟩ := id hX
  refine g_blk (pc' := 1) (loc' := [some (vR (7, 0, 0)), some (vI w)]) (st' := [vI w]) (σ' := σ) fl4_ok [(0, .iload_n 1)] (by decide +kernel) rfl rfl ?_
  refine g_callSp [vI w] [] sl_RX4_33 mi_X4_isWeight (c_X4_isWeight l w) rfl ⟨Nat.le_of_ble_eq_true rfl, Nat.le_of_ble_eq_true rfl⟩ rfl (Nat.le_of_ble_eq_true rfl) (by decide +kernel) ?_
  refine g_if_ne (off := 6) (tgt := 10) (by decide +kernel) (by decide) (fun zc4 => ?_) (fun zc4 => ?_)
  · refine g_blk (pc' := 17) (loc' := [some (vR (7, 0, 0)), some (vI w)]) (st' := [vR (0, 0, 0)]) (σ' := σ) fl4_ok [(10, .aload_n 0), (11, .getfield 10), (14, .getfield 37)] (by decide +kernel) rfl rfl ?_
    refine g_callVp (0, 0, 0) [] [] vl_RX4_41 mi_X3_isFull (ct_isFull l x0 0 (by decide)) rfl rfl rfl rfl ⟨Nat.le_of_ble_eq_true rfl, Nat.le_of_ble_eq_true rfl⟩ rfl (Nat.le_of_ble_eq_true rfl) (by decide +kernel) ?_
    refine g_if_eq (off := 6) (tgt := 26) (by decide +kernel) (by decide) (fun zc20 => ?_) (fun zc20 => ?_)
    · refine g_blk (pc' := 34) (loc' := [some (vR (7, 0, 0)), some (vI w)]) (st' := [vR (2, 0, 0), vR (3, 0, 0)]) (σ' := σ) fl4_ok [(26, .aload_n 0), (27, .getfield 22), (30, .aload_n 0), (31, .getfield 10)] (by decide +kernel) rfl rfl ?_
      refine g_callV (3, 0, 0) [vR (2, 0, 0)] [] vl_RX4_47 mi_X0_keep (c_X0_keep l x2 x0 x5.1) rfl rfl rfl rfl ⟨Nat.le_of_ble_eq_true rfl, Nat.le_of_ble_eq_true rfl⟩ rfl (Nat.le_of_ble_eq_true rfl) (by decide +kernel) (fun o σk hPk => ?_)
      obtain ⟨rfl, k1, k2, k3⟩ := hPk
      obtain ⟨hS0, hH0⟩ := k3.house (h := 0) (by decide)
      have hHk := hH0 x0
      refine g_blk (pc' := 42) (loc' := [some (vR (7, 0, 0)), some (vI w)]) (st' := [vI w, vR (2, 0, 0)]) (σ' := σk) fl4_ok [(37, .aload_n 0), (38, .getfield 10), (41, .iload_n 1)] (by decide +kernel) rfl rfl ?_
      refine g_callV (2, 0, 0) [vI w] [] vl_RX4_51 mi_X1_addResident (c_X1_addResident l w hHk (by rw [hS0]; exact full_lt zc20)) rfl rfl rfl rfl ⟨Nat.le_of_ble_eq_true rfl, Nat.le_of_ble_eq_true rfl⟩ rfl (Nat.le_of_ble_eq_true rfl) (by decide +kernel) (fun o σ1 hPσ1 => ?_)
      obtain ⟨rfl, hWσ1⟩ := hPσ1
      refine g_iret (by decide +kernel) ⟨?_, ?_⟩
      · rw [xresident, if_pos zc4, if_pos zc20]
        first | rfl | (rw [hWσ1.1, hS0]; done) | (rw [hWσ1.1, hS0]; rfl) | (rw [hS0]; done) | (rw [hS0]; rfl)
      · rw [xresident, if_pos zc4, if_pos zc20]
        exact x_mut hX k1 k2 k3 (by rw [hWσ1.1, hS0] <;> rfl) hWσ1.2.1 (hWσ1.2.2) (inv_same x5 rfl rfl)
    · refine g_blk (pc' := 25) (loc' := [some (vR (7, 0, 0)), some (vI w)]) (st' := [vI (-4 : Int32)]) (σ' := σ) fl4_ok [(23, .bipush (-4))] (by decide +kernel) rfl rfl ?_
      exact g_iret (by decide +kernel) ⟨by rw [xresident, if_pos zc4, if_neg zc20], by rw [xresident, if_pos zc4, if_neg zc20]; exact XW.rf hX⟩
  · refine g_blk (pc' := 9) (loc' := [some (vR (7, 0, 0)), some (vI w)]) (st' := [vI (-2 : Int32)]) (σ' := σ) fl4_ok [(7, .bipush (-2))] (by decide +kernel) rfl rfl ?_
    exact g_iret (by decide +kernel) ⟨by rw [xresident, if_neg (not_not_intro zc4)], by rw [xresident, if_neg (not_not_intro zc4)]; exact XW.rf hX⟩
set_option maxHeartbeats 2000000 in
theorem c_X4_weigh (l : Launch) {σ : Sg} (hX : XOK σ) (r w : Int32)  : Con l 4 yX4_weigh cX4_weigh 3 (some .int) [vR (7, 0, 0), vI r, vI w] σ (fun o σ' => o = some (vI (xweigh (habs σ 0) (hist σ) (pv σ) r w).1) ∧ XW (xweigh (habs σ 0) (hist σ) (pv σ) r w).2 σ σ') := by
  refine con_of pn_X4_weigh (Nat.le_of_ble_eq_true rfl) (fun hPK hok => ?_)
  show G l (Rm 4) RX4 cX4_weigh 3 (some .int) _ 0 [some (vR (7, 0, 0)), some (vI r), some (vI w)] [] σ
  obtain ⟨x0, x1, x2, x3, x4, x5, x6⟩ := id hX
  refine g_blk (pc' := 8) (loc' := [some (vR (7, 0, 0)), some (vI r), some (vI w)]) (st' := [vI r, vR (0, 0, 0)]) (σ' := σ) fl4_ok [(0, .aload_n 0), (1, .getfield 10), (4, .getfield 37), (7, .iload_n 1)] (by decide +kernel) rfl rfl ?_
  refine g_callVp (0, 0, 0) [vI r] [] vl_RX4_55 mi_X3_has (ct_has l x0 0 (by decide) r) rfl rfl rfl rfl ⟨Nat.le_of_ble_eq_true rfl, Nat.le_of_ble_eq_true rfl⟩ rfl (Nat.le_of_ble_eq_true rfl) (by decide +kernel) ?_
  refine g_if_ne (off := 5) (tgt := 16) (by decide +kernel) (by decide) (fun zc11 => ?_) (fun zc11 => ?_)
  · refine g_blk (pc' := 17) (loc' := [some (vR (7, 0, 0)), some (vI r), some (vI w)]) (st' := [vI w]) (σ' := σ) fl4_ok [(16, .iload_n 2)] (by decide +kernel) rfl rfl ?_
    refine g_callSp [vI w] [] sl_RX4_33 mi_X4_isWeight (c_X4_isWeight l w) rfl ⟨Nat.le_of_ble_eq_true rfl, Nat.le_of_ble_eq_true rfl⟩ rfl (Nat.le_of_ble_eq_true rfl) (by decide +kernel) ?_
    refine g_if_ne (off := 6) (tgt := 26) (by decide +kernel) (by decide) (fun zc20 => ?_) (fun zc20 => ?_)
    · refine g_blk (pc' := 34) (loc' := [some (vR (7, 0, 0)), some (vI r), some (vI w)]) (st' := [vR (2, 0, 0), vR (3, 0, 0)]) (σ' := σ) fl4_ok [(26, .aload_n 0), (27, .getfield 22), (30, .aload_n 0), (31, .getfield 10)] (by decide +kernel) rfl rfl ?_
      refine g_callV (3, 0, 0) [vR (2, 0, 0)] [] vl_RX4_47 mi_X0_keep (c_X0_keep l x2 x0 x5.1) rfl rfl rfl rfl ⟨Nat.le_of_ble_eq_true rfl, Nat.le_of_ble_eq_true rfl⟩ rfl (Nat.le_of_ble_eq_true rfl) (by decide +kernel) (fun o σk hPk => ?_)
      obtain ⟨rfl, k1, k2, k3⟩ := hPk
      obtain ⟨hS0, hH0⟩ := k3.house (h := 0) (by decide)
      have hHk := hH0 x0
      refine g_blk (pc' := 47) (loc' := [some (vR (7, 0, 0)), some (vI r), some (vI w)]) (st' := [vI w, vI (0 : Int32), vI r, vR (0, 0, 0)]) (σ' := σk) fl4_ok [(37, .aload_n 0), (38, .getfield 10), (41, .getfield 37), (44, .iload_n 1), (45, .iconst 0), (46, .iload_n 2)] (by decide +kernel) rfl rfl ?_
      refine g_callV (0, 0, 0) [vI r, vI (0 : Int32), vI w] [] vl_RX4_58 mi_X3_exchange (ct_exchange l hHk 0 (by decide) r (0 : Int32) w) rfl rfl rfl rfl ⟨Nat.le_of_ble_eq_true rfl, Nat.le_of_ble_eq_true rfl⟩ rfl (Nat.le_of_ble_eq_true rfl) (by decide +kernel) (fun o σ1 hPσ1 => ?_)
      obtain ⟨rfl, hWσ1⟩ := hPσ1
      refine g_iret (by decide +kernel) ⟨?_, ?_⟩
      · rw [xweigh, if_pos zc11, if_pos zc20]
        first | rfl | (rw [hWσ1.1, hS0]; done) | (rw [hWσ1.1, hS0]; rfl) | (rw [hS0]; done) | (rw [hS0]; rfl)
      · rw [xweigh, if_pos zc11, if_pos zc20]
        exact x_mut hX k1 k2 k3 (by rw [hWσ1.1, hS0] <;> rfl) hWσ1.2.1 (hWσ1.2.2) (inv_same x5 rfl rfl)
    · refine g_blk (pc' := 25) (loc' := [some (vR (7, 0, 0)), some (vI r), some (vI w)]) (st' := [vI (-2 : Int32)]) (σ' := σ) fl4_ok [(23, .bipush (-2))] (by decide +kernel) rfl rfl ?_
      exact g_iret (by decide +kernel) ⟨by rw [xweigh, if_pos zc11, if_neg (not_not_intro zc20)], by rw [xweigh, if_pos zc11, if_neg (not_not_intro zc20)]; exact XW.rf hX⟩
  · refine g_blk (pc' := 15) (loc' := [some (vR (7, 0, 0)), some (vI r), some (vI w)]) (st' := [vI (-1 : Int32)]) (σ' := σ) fl4_ok [(14, .iconst (-1))] (by decide +kernel) rfl rfl ?_
    exact g_iret (by decide +kernel) ⟨by rw [xweigh, if_neg (not_not_intro zc11)], by rw [xweigh, if_neg (not_not_intro zc11)]; exact XW.rf hX⟩
set_option maxHeartbeats 2000000 in
theorem c_X4_away (l : Launch) {σ : Sg} (hX : XOK σ) (r f t : Int32)  : Con l 4 yX4_away cX4_away 4 (some .int) [vR (7, 0, 0), vI r, vI f, vI t] σ (fun o σ' => o = some (vI (xaway (habs σ 0) (hist σ) (pv σ) r f t).1) ∧ XW (xaway (habs σ 0) (hist σ) (pv σ) r f t).2 σ σ') := by
  refine con_of pn_X4_away (Nat.le_of_ble_eq_true rfl) (fun hPK hok => ?_)
  show G l (Rm 4) RX4 cX4_away 4 (some .int) _ 0 [some (vR (7, 0, 0)), some (vI r), some (vI f), some (vI t)] [] σ
  obtain ⟨x0, x1, x2, x3, x4, x5, x6⟩ := id hX
  refine g_blk (pc' := 8) (loc' := [some (vR (7, 0, 0)), some (vI r), some (vI f), some (vI t)]) (st' := [vI r, vR (0, 0, 0)]) (σ' := σ) fl4_ok [(0, .aload_n 0), (1, .getfield 10), (4, .getfield 37), (7, .iload_n 1)] (by decide +kernel) rfl rfl ?_
  refine g_callVp (0, 0, 0) [vI r] [] vl_RX4_55 mi_X3_has (ct_has l x0 0 (by decide) r) rfl rfl rfl rfl ⟨Nat.le_of_ble_eq_true rfl, Nat.le_of_ble_eq_true rfl⟩ rfl (Nat.le_of_ble_eq_true rfl) (by decide +kernel) ?_
  refine g_if_ne (off := 5) (tgt := 16) (by decide +kernel) (by decide) (fun zc11 => ?_) (fun zc11 => ?_)
  · refine g_blk (pc' := 21) (loc' := [some (vR (7, 0, 0)), some (vI r), some (vI f), some (vI t)]) (st' := [vI (999 : Int32), vI (0 : Int32), vI f]) (σ' := σ) fl4_ok [(16, .iload_n 2), (17, .iconst 0), (18, .sipush 999)] (by decide +kernel) rfl rfl ?_
    refine g_callSp [vI f, vI (0 : Int32), vI (999 : Int32)] [] sl_RX4_62 mi_X4_isIn (c_X4_isIn l f (0 : Int32) (999 : Int32)) rfl ⟨Nat.le_of_ble_eq_true rfl, Nat.le_of_ble_eq_true rfl⟩ rfl (Nat.le_of_ble_eq_true rfl) (by decide +kernel) ?_
    refine g_if_eq (off := 14) (tgt := 38) (by decide +kernel) (by decide) (fun zc24 => ?_) (fun zc24 => ?_)
    · refine g_blk (pc' := 40) (loc' := [some (vR (7, 0, 0)), some (vI r), some (vI f), some (vI t)]) (st' := [vI (-2 : Int32)]) (σ' := σ) fl4_ok [(38, .bipush (-2))] (by decide +kernel) rfl rfl ?_
      exact g_iret (by decide +kernel) ⟨by rw [xaway, if_pos zc11, if_pos zc24], by rw [xaway, if_pos zc11, if_pos zc24]; exact XW.rf hX⟩
    · refine g_blk (pc' := 32) (loc' := [some (vR (7, 0, 0)), some (vI r), some (vI f), some (vI t)]) (st' := [vI (999 : Int32), vI f, vI t]) (σ' := σ) fl4_ok [(27, .iload_n 3), (28, .iload_n 2), (29, .sipush 999)] (by decide +kernel) rfl rfl ?_
      refine g_callSp [vI t, vI f, vI (999 : Int32)] [] sl_RX4_62 mi_X4_isIn (c_X4_isIn l t f (999 : Int32)) rfl ⟨Nat.le_of_ble_eq_true rfl, Nat.le_of_ble_eq_true rfl⟩ rfl (Nat.le_of_ble_eq_true rfl) (by decide +kernel) ?_
      refine g_if_ne (off := 6) (tgt := 41) (by decide +kernel) (by decide) (fun zc35 => ?_) (fun zc35 => ?_)
      · refine g_blk (pc' := 49) (loc' := [some (vR (7, 0, 0)), some (vI r), some (vI f), some (vI t)]) (st' := [vR (2, 0, 0), vR (3, 0, 0)]) (σ' := σ) fl4_ok [(41, .aload_n 0), (42, .getfield 22), (45, .aload_n 0), (46, .getfield 10)] (by decide +kernel) rfl rfl ?_
        refine g_callV (3, 0, 0) [vR (2, 0, 0)] [] vl_RX4_47 mi_X0_keep (c_X0_keep l x2 x0 x5.1) rfl rfl rfl rfl ⟨Nat.le_of_ble_eq_true rfl, Nat.le_of_ble_eq_true rfl⟩ rfl (Nat.le_of_ble_eq_true rfl) (by decide +kernel) (fun o σk hPk => ?_)
        obtain ⟨rfl, k1, k2, k3⟩ := hPk
        obtain ⟨hS0, hH0⟩ := k3.house (h := 0) (by decide)
        have hHk := hH0 x0
        refine g_blk (pc' := 62) (loc' := [some (vR (7, 0, 0)), some (vI r), some (vI f), some (vI t)]) (st' := [vI f, vI (1 : Int32), vI r, vR (0, 0, 0)]) (σ' := σk) fl4_ok [(52, .aload_n 0), (53, .getfield 10), (56, .getfield 37), (59, .iload_n 1), (60, .iconst 1), (61, .iload_n 2)] (by decide +kernel) rfl rfl ?_
        refine g_callV (0, 0, 0) [vI r, vI (1 : Int32), vI f] [] vl_RX4_66 mi_X3_write (ct_write l hHk 0 (by decide) r (1 : Int32) f) rfl rfl rfl rfl ⟨Nat.le_of_ble_eq_true rfl, Nat.le_of_ble_eq_true rfl⟩ rfl (Nat.le_of_ble_eq_true rfl) (by decide +kernel) (fun o σ1 hPσ1 => ?_)
        obtain ⟨rfl, hWσ1⟩ := hPσ1
        refine g_blk (pc' := 75) (loc' := [some (vR (7, 0, 0)), some (vI r), some (vI f), some (vI t)]) (st' := [vI t, vI (2 : Int32), vI r, vR (0, 0, 0)]) (σ' := σ1) fl4_ok [(65, .aload_n 0), (66, .getfield 10), (69, .getfield 37), (72, .iload_n 1), (73, .iconst 2), (74, .iload_n 3)] (by decide +kernel) rfl rfl ?_
        refine g_callV (0, 0, 0) [vI r, vI (2 : Int32), vI t] [] vl_RX4_66 mi_X3_write (ct_write l hWσ1.2.1 0 (by decide) r (2 : Int32) t) rfl rfl rfl rfl ⟨Nat.le_of_ble_eq_true rfl, Nat.le_of_ble_eq_true rfl⟩ rfl (Nat.le_of_ble_eq_true rfl) (by decide +kernel) (fun o σ2 hPσ2 => ?_)
        obtain ⟨rfl, hWσ2⟩ := hPσ2
        refine g_blk (pc' := 83) (loc' := [some (vR (7, 0, 0)), some (vI r), some (vI f), some (vI t)]) (st' := [vI r, vR (2, 0, 0)]) (σ' := σ2) fl4_ok [(78, .aload_n 0), (79, .getfield 10), (82, .iload_n 1)] (by decide +kernel) rfl rfl ?_
        refine g_callVp (2, 0, 0) [vI r] [] vl_RX4_70 mi_X1_isAway (c_X1_isAway l hWσ2.2.1 r) rfl rfl rfl rfl ⟨Nat.le_of_ble_eq_true rfl, Nat.le_of_ble_eq_true rfl⟩ rfl (Nat.le_of_ble_eq_true rfl) (by decide +kernel) ?_
        refine g_callSp [vI (awayS (habs σ2 0) r)] [] sl_RX4_73 mi_X4_bit (c_X4_bit l (awayS (habs σ2 0) r)) rfl ⟨Nat.le_of_ble_eq_true rfl, Nat.le_of_ble_eq_true rfl⟩ rfl (Nat.le_of_ble_eq_true rfl) (by decide +kernel) ?_
        refine g_iret (by decide +kernel) ⟨?_, ?_⟩
        · rw [xaway, if_pos zc11, if_neg zc24, if_pos zc35]
          first | rfl | (rw [hWσ2.1, hWσ1.1, hS0]; done) | (rw [hWσ2.1, hWσ1.1, hS0]; rfl) | (rw [hS0]; done) | (rw [hS0]; rfl)
        · rw [xaway, if_pos zc11, if_neg zc24, if_pos zc35]
          exact x_mut hX k1 k2 k3 (by rw [hWσ2.1, hWσ1.1, hS0] <;> rfl) hWσ2.2.1 ((hWσ1.2.2).tr hWσ2.2.2) (inv_same x5 rfl rfl)
      · refine g_blk (pc' := 40) (loc' := [some (vR (7, 0, 0)), some (vI r), some (vI f), some (vI t)]) (st' := [vI (-2 : Int32)]) (σ' := σ) fl4_ok [(38, .bipush (-2))] (by decide +kernel) rfl rfl ?_
        exact g_iret (by decide +kernel) ⟨by rw [xaway, if_pos zc11, if_neg zc24, if_neg (not_not_intro zc35)], by rw [xaway, if_pos zc11, if_neg zc24, if_neg (not_not_intro zc35)]; exact XW.rf hX⟩
  · refine g_blk (pc' := 15) (loc' := [some (vR (7, 0, 0)), some (vI r), some (vI f), some (vI t)]) (st' := [vI (-1 : Int32)]) (σ' := σ) fl4_ok [(14, .iconst (-1))] (by decide +kernel) rfl rfl ?_
    exact g_iret (by decide +kernel) ⟨by rw [xaway, if_neg (not_not_intro zc11)], by rw [xaway, if_neg (not_not_intro zc11)]; exact XW.rf hX⟩
set_option maxHeartbeats 2000000 in
theorem c_X4_area (l : Launch) {σ : Sg} (hX : XOK σ) (e p g : Int32)  : Con l 4 yX4_area cX4_area 4 (some .int) [vR (7, 0, 0), vI e, vI p, vI g] σ (fun o σ' => o = some (vI (xarea (habs σ 0) (hist σ) (pv σ) e p g).1) ∧ XW (xarea (habs σ 0) (hist σ) (pv σ) e p g).2 σ σ') := by
  refine con_of pn_X4_area (Nat.le_of_ble_eq_true rfl) (fun hPK hok => ?_)
  show G l (Rm 4) RX4 cX4_area 4 (some .int) _ 0 [some (vR (7, 0, 0)), some (vI e), some (vI p), some (vI g)] [] σ
  obtain ⟨x0, x1, x2, x3, x4, x5, x6⟩ := id hX
  refine g_blk (pc' := 4) (loc' := [some (vR (7, 0, 0)), some (vI e), some (vI p), some (vI g)]) (st' := [vI (20 : Int32), vI (1 : Int32), vI e]) (σ' := σ) fl4_ok [(0, .iload_n 1), (1, .iconst 1), (2, .bipush 20)] (by decide +kernel) rfl rfl ?_
  refine g_callSp [vI e, vI (1 : Int32), vI (20 : Int32)] [] sl_RX4_62 mi_X4_isIn (c_X4_isIn l e (1 : Int32) (20 : Int32)) rfl ⟨Nat.le_of_ble_eq_true rfl, Nat.le_of_ble_eq_true rfl⟩ rfl (Nat.le_of_ble_eq_true rfl) (by decide +kernel) ?_
  refine g_if_eq (off := 23) (tgt := 30) (by decide +kernel) (by decide) (fun zc7 => ?_) (fun zc7 => ?_)
  · refine g_blk (pc' := 32) (loc' := [some (vR (7, 0, 0)), some (vI e), some (vI p), some (vI g)]) (st' := [vI (-2 : Int32)]) (σ' := σ) fl4_ok [(30, .bipush (-2))] (by decide +kernel) rfl rfl ?_
    exact g_iret (by decide +kernel) ⟨by rw [xarea, if_pos zc7], by rw [xarea, if_pos zc7]; exact XW.rf hX⟩
  · refine g_blk (pc' := 13) (loc' := [some (vR (7, 0, 0)), some (vI e), some (vI p), some (vI g)]) (st' := [vI (4 : Int32), vI (1 : Int32), vI p]) (σ' := σ) fl4_ok [(10, .iload_n 2), (11, .iconst 1), (12, .iconst 4)] (by decide +kernel) rfl rfl ?_
    refine g_callSp [vI p, vI (1 : Int32), vI (4 : Int32)] [] sl_RX4_62 mi_X4_isIn (c_X4_isIn l p (1 : Int32) (4 : Int32)) rfl ⟨Nat.le_of_ble_eq_true rfl, Nat.le_of_ble_eq_true rfl⟩ rfl (Nat.le_of_ble_eq_true rfl) (by decide +kernel) ?_
    refine g_if_eq (off := 14) (tgt := 30) (by decide +kernel) (by decide) (fun zc16 => ?_) (fun zc16 => ?_)
    · refine g_blk (pc' := 32) (loc' := [some (vR (7, 0, 0)), some (vI e), some (vI p), some (vI g)]) (st' := [vI (-2 : Int32)]) (σ' := σ) fl4_ok [(30, .bipush (-2))] (by decide +kernel) rfl rfl ?_
      exact g_iret (by decide +kernel) ⟨by rw [xarea, if_neg zc7, if_pos zc16], by rw [xarea, if_neg zc7, if_pos zc16]; exact XW.rf hX⟩
    · refine g_blk (pc' := 24) (loc' := [some (vR (7, 0, 0)), some (vI e), some (vI p), some (vI g)]) (st' := [vI (200 : Int32), vI (0 : Int32), vI g]) (σ' := σ) fl4_ok [(19, .iload_n 3), (20, .iconst 0), (21, .sipush 200)] (by decide +kernel) rfl rfl ?_
      refine g_callSp [vI g, vI (0 : Int32), vI (200 : Int32)] [] sl_RX4_62 mi_X4_isIn (c_X4_isIn l g (0 : Int32) (200 : Int32)) rfl ⟨Nat.le_of_ble_eq_true rfl, Nat.le_of_ble_eq_true rfl⟩ rfl (Nat.le_of_ble_eq_true rfl) (by decide +kernel) ?_
      refine g_if_ne (off := 6) (tgt := 33) (by decide +kernel) (by decide) (fun zc27 => ?_) (fun zc27 => ?_)
      · refine g_blk (pc' := 40) (loc' := [some (vR (7, 0, 0)), some (vI e), some (vI p), some (vI g)]) (st' := [vR (0, 1, 0)]) (σ' := σ) fl4_ok [(33, .aload_n 0), (34, .getfield 10), (37, .getfield 77)] (by decide +kernel) rfl rfl ?_
        refine g_callVp (0, 1, 0) [] [] vl_RX4_41 mi_X3_isFull (ct_isFull l x0 1 (by decide)) rfl rfl rfl rfl ⟨Nat.le_of_ble_eq_true rfl, Nat.le_of_ble_eq_true rfl⟩ rfl (Nat.le_of_ble_eq_true rfl) (by decide +kernel) ?_
        refine g_if_eq (off := 6) (tgt := 49) (by decide +kernel) (by decide) (fun zc43 => ?_) (fun zc43 => ?_)
        · refine g_blk (pc' := 57) (loc' := [some (vR (7, 0, 0)), some (vI e), some (vI p), some (vI g)]) (st' := [vR (2, 0, 0), vR (3, 0, 0)]) (σ' := σ) fl4_ok [(49, .aload_n 0), (50, .getfield 22), (53, .aload_n 0), (54, .getfield 10)] (by decide +kernel) rfl rfl ?_
          refine g_callV (3, 0, 0) [vR (2, 0, 0)] [] vl_RX4_47 mi_X0_keep (c_X0_keep l x2 x0 x5.1) rfl rfl rfl rfl ⟨Nat.le_of_ble_eq_true rfl, Nat.le_of_ble_eq_true rfl⟩ rfl (Nat.le_of_ble_eq_true rfl) (by decide +kernel) (fun o σk hPk => ?_)
          obtain ⟨rfl, k1, k2, k3⟩ := hPk
          obtain ⟨hS0, hH0⟩ := k3.house (h := 0) (by decide)
          have hHk := hH0 x0
          refine g_blk (pc' := 67) (loc' := [some (vR (7, 0, 0)), some (vI e), some (vI p), some (vI g)]) (st' := [vI g, vI p, vI e, vR (2, 0, 0)]) (σ' := σk) fl4_ok [(60, .aload_n 0), (61, .getfield 10), (64, .iload_n 1), (65, .iload_n 2), (66, .iload_n 3)] (by decide +kernel) rfl rfl ?_
          refine g_callV (2, 0, 0) [vI e, vI p, vI g] [] vl_RX4_80 mi_X1_addArea (c_X1_addArea l e p g hHk (by rw [hS0]; exact full_lt zc43)) rfl rfl rfl rfl ⟨Nat.le_of_ble_eq_true rfl, Nat.le_of_ble_eq_true rfl⟩ rfl (Nat.le_of_ble_eq_true rfl) (by decide +kernel) (fun o σ1 hPσ1 => ?_)
          obtain ⟨rfl, hWσ1⟩ := hPσ1
          refine g_iret (by decide +kernel) ⟨?_, ?_⟩
          · rw [xarea, if_neg zc7, if_neg zc16, if_pos zc27, if_pos zc43]
            first | rfl | (rw [hWσ1.1, hS0]; done) | (rw [hWσ1.1, hS0]; rfl) | (rw [hS0]; done) | (rw [hS0]; rfl)
          · rw [xarea, if_neg zc7, if_neg zc16, if_pos zc27, if_pos zc43]
            exact x_mut hX k1 k2 k3 (by rw [hWσ1.1, hS0] <;> rfl) hWσ1.2.1 (hWσ1.2.2) (inv_same x5 rfl rfl)
        · refine g_blk (pc' := 48) (loc' := [some (vR (7, 0, 0)), some (vI e), some (vI p), some (vI g)]) (st' := [vI (-4 : Int32)]) (σ' := σ) fl4_ok [(46, .bipush (-4))] (by decide +kernel) rfl rfl ?_
          exact g_iret (by decide +kernel) ⟨by rw [xarea, if_neg zc7, if_neg zc16, if_pos zc27, if_neg zc43], by rw [xarea, if_neg zc7, if_neg zc16, if_pos zc27, if_neg zc43]; exact XW.rf hX⟩
      · refine g_blk (pc' := 32) (loc' := [some (vR (7, 0, 0)), some (vI e), some (vI p), some (vI g)]) (st' := [vI (-2 : Int32)]) (σ' := σ) fl4_ok [(30, .bipush (-2))] (by decide +kernel) rfl rfl ?_
        exact g_iret (by decide +kernel) ⟨by rw [xarea, if_neg zc7, if_neg zc16, if_neg (not_not_intro zc27)], by rw [xarea, if_neg zc7, if_neg zc16, if_neg (not_not_intro zc27)]; exact XW.rf hX⟩
set_option maxHeartbeats 2000000 in
theorem c_X4_set (l : Launch) {σ : Sg} (hX : XOK σ) (s v : Int32)  : Con l 4 yX4_set cX4_set 3 (some .int) [vR (7, 0, 0), vI s, vI v] σ (fun o σ' => o = some (vI (xset (habs σ 0) (hist σ) (pv σ) s v).1) ∧ XW (xset (habs σ 0) (hist σ) (pv σ) s v).2 σ σ') := by
  refine con_of pn_X4_set (Nat.le_of_ble_eq_true rfl) (fun hPK hok => ?_)
  show G l (Rm 4) RX4 cX4_set 3 (some .int) _ 0 [some (vR (7, 0, 0)), some (vI s), some (vI v)] [] σ
  obtain ⟨x0, x1, x2, x3, x4, x5, x6⟩ := id hX
  refine g_blk (pc' := 2) (loc' := [some (vR (7, 0, 0)), some (vI s), some (vI v)]) (st' := [vI v, vI s]) (σ' := σ) fl4_ok [(0, .iload_n 1), (1, .iload_n 2)] (by decide +kernel) rfl rfl ?_
  refine g_callSp [vI s, vI v] [] sl_RX4_83 mi_X4_isSettingValue (c_X4_isSettingValue l s v) rfl ⟨Nat.le_of_ble_eq_true rfl, Nat.le_of_ble_eq_true rfl⟩ rfl (Nat.le_of_ble_eq_true rfl) (by decide +kernel) ?_
  refine g_if_ne (off := 6) (tgt := 11) (by decide +kernel) (by decide) (fun zc5 => ?_) (fun zc5 => ?_)
  · refine g_blk (pc' := 19) (loc' := [some (vR (7, 0, 0)), some (vI s), some (vI v)]) (st' := [vR (2, 0, 0), vR (3, 0, 0)]) (σ' := σ) fl4_ok [(11, .aload_n 0), (12, .getfield 22), (15, .aload_n 0), (16, .getfield 10)] (by decide +kernel) rfl rfl ?_
    refine g_callV (3, 0, 0) [vR (2, 0, 0)] [] vl_RX4_47 mi_X0_keep (c_X0_keep l x2 x0 x5.1) rfl rfl rfl rfl ⟨Nat.le_of_ble_eq_true rfl, Nat.le_of_ble_eq_true rfl⟩ rfl (Nat.le_of_ble_eq_true rfl) (by decide +kernel) (fun o σk hPk => ?_)
    obtain ⟨rfl, k1, k2, k3⟩ := hPk
    obtain ⟨hS0, hH0⟩ := k3.house (h := 0) (by decide)
    have hHk := hH0 x0
    refine g_blk (pc' := 32) (loc' := [some (vR (7, 0, 0)), some (vI s), some (vI v)]) (st' := [vI v, vI s, vI (0 : Int32), vR (0, 4, 0)]) (σ' := σk) fl4_ok [(22, .aload_n 0), (23, .getfield 10), (26, .getfield 87), (29, .iconst 0), (30, .iload_n 1), (31, .iload_n 2)] (by decide +kernel) rfl rfl ?_
    refine g_callV (0, 4, 0) [vI (0 : Int32), vI s, vI v] [] vl_RX4_58 mi_X3_exchange (ct_exchange l hHk 4 (by decide) (0 : Int32) s v) rfl rfl rfl rfl ⟨Nat.le_of_ble_eq_true rfl, Nat.le_of_ble_eq_true rfl⟩ rfl (Nat.le_of_ble_eq_true rfl) (by decide +kernel) (fun o σ1 hPσ1 => ?_)
    obtain ⟨rfl, hWσ1⟩ := hPσ1
    refine g_iret (by decide +kernel) ⟨?_, ?_⟩
    · rw [xset, if_pos zc5]
      first | rfl | (rw [hWσ1.1, hS0]; done) | (rw [hWσ1.1, hS0]; rfl) | (rw [hS0]; done) | (rw [hS0]; rfl)
    · rw [xset, if_pos zc5]
      exact x_mut hX k1 k2 k3 (by rw [hWσ1.1, hS0] <;> rfl) hWσ1.2.1 (hWσ1.2.2) (inv_same x5 rfl rfl)
  · refine g_blk (pc' := 10) (loc' := [some (vR (7, 0, 0)), some (vI s), some (vI v)]) (st' := [vI (-2 : Int32)]) (σ' := σ) fl4_ok [(8, .bipush (-2))] (by decide +kernel) rfl rfl ?_
    exact g_iret (by decide +kernel) ⟨by rw [xset, if_neg (not_not_intro zc5)], by rw [xset, if_neg (not_not_intro zc5)]; exact XW.rf hX⟩
set_option maxHeartbeats 2000000 in
theorem c_X4_plan (l : Launch) {σ : Sg} (hX : XOK σ)  : Con l 6 yX4_plan cX4_plan 1 (some .int) [vR (7, 0, 0)] σ (fun o σ' => o = some (vI (xplan (habs σ 0) (hist σ) (pv σ)).1) ∧ XW (xplan (habs σ 0) (hist σ) (pv σ)).2 σ σ') := by
  refine con_of pn_X4_plan (Nat.le_of_ble_eq_true rfl) (fun hPK hok => ?_)
  show G l (Rm 6) RX4 cX4_plan 1 (some .int) _ 0 [some (vR (7, 0, 0))] [] σ
  obtain ⟨x0, x1, x2, x3, x4, x5, x6⟩ := id hX
  refine g_blk (pc' := 7) (loc' := [some (vR (7, 0, 0))]) (st' := [vI ((habs σ 0).2 6)]) (σ' := σ) fl4_ok [(0, .aload_n 0), (1, .getfield 10), (4, .getfield 90)] (by decide +kernel) rfl rfl ?_
  refine g_if_eq (off := 6) (tgt := 13) (by decide +kernel) (by decide) (fun zc7 => ?_) (fun zc7 => ?_)
  · refine g_blk (pc' := 21) (loc' := [some (vR (7, 0, 0))]) (st' := [vR (2, 0, 0), vR (3, 0, 0)]) (σ' := σ) fl4_ok [(13, .aload_n 0), (14, .getfield 22), (17, .aload_n 0), (18, .getfield 10)] (by decide +kernel) rfl rfl ?_
    refine g_callV (3, 0, 0) [vR (2, 0, 0)] [] vl_RX4_47 mi_X0_keep (c_X0_keep l x2 x0 x5.1) rfl rfl rfl rfl ⟨Nat.le_of_ble_eq_true rfl, Nat.le_of_ble_eq_true rfl⟩ rfl (Nat.le_of_ble_eq_true rfl) (by decide +kernel) (fun o σk hPk => ?_)
    obtain ⟨rfl, k1, k2, k3⟩ := hPk
    obtain ⟨hS0, hH0⟩ := k3.house (h := 0) (by decide)
    have hHk := hH0 x0
    refine g_blk (pc' := 28) (loc' := [some (vR (7, 0, 0))]) (st' := [vR (2, 0, 0)]) (σ' := σk) fl4_ok [(24, .aload_n 0), (25, .getfield 10)] (by decide +kernel) rfl rfl ?_
    refine g_callV (2, 0, 0) [] [] vl_RX4_94 mi_X1_planWeek (c_X1_planWeek l hHk (by rw [hS0]; exact x5.2 zc7)) rfl rfl rfl rfl ⟨Nat.le_of_ble_eq_true rfl, Nat.le_of_ble_eq_true rfl⟩ rfl (Nat.le_of_ble_eq_true rfl) (by decide +kernel) (fun o σ1 hPσ1 => ?_)
    obtain ⟨rfl, hWσ1⟩ := hPσ1
    refine g_iret (by decide +kernel) ⟨?_, ?_⟩
    · rw [xplan, if_pos zc7]
      first | rfl | (rw [hWσ1.1, hS0]; done) | (rw [hWσ1.1, hS0]; rfl) | (rw [hS0]; done) | (rw [hS0]; rfl)
    · rw [xplan, if_pos zc7]
      exact x_mut hX k1 k2 k3 (by rw [hWσ1.1, hS0] <;> rfl) hWσ1.2.1 (hWσ1.2.2) (inv_plan _)
  · refine g_blk (pc' := 12) (loc' := [some (vR (7, 0, 0))]) (st' := [vI (-5 : Int32)]) (σ' := σ) fl4_ok [(10, .bipush (-5))] (by decide +kernel) rfl rfl ?_
    exact g_iret (by decide +kernel) ⟨by rw [xplan, if_neg zc7], by rw [xplan, if_neg zc7]; exact XW.rf hX⟩
set_option maxHeartbeats 2000000 in
theorem c_X4_done (l : Launch) {σ : Sg} (hX : XOK σ) (t : Int32)  : Con l 4 yX4_done cX4_done 2 (some .int) [vR (7, 0, 0), vI t] σ (fun o σ' => o = some (vI (xdone (habs σ 0) (hist σ) (pv σ) t).1) ∧ XW (xdone (habs σ 0) (hist σ) (pv σ) t).2 σ σ') := by
  refine con_of pn_X4_done (Nat.le_of_ble_eq_true rfl) (fun hPK hok => ?_)
  show G l (Rm 4) RX4 cX4_done 2 (some .int) _ 0 [some (vR (7, 0, 0)), some (vI t)] [] σ
  obtain ⟨x0, x1, x2, x3, x4, x5, x6⟩ := id hX
  refine g_blk (pc' := 8) (loc' := [some (vR (7, 0, 0)), some (vI t)]) (st' := [vI t, vR (0, 2, 0)]) (σ' := σ) fl4_ok [(0, .aload_n 0), (1, .getfield 10), (4, .getfield 98), (7, .iload_n 1)] (by decide +kernel) rfl rfl ?_
  refine g_callVp (0, 2, 0) [vI t] [] vl_RX4_55 mi_X3_has (ct_has l x0 2 (by decide) t) rfl rfl rfl rfl ⟨Nat.le_of_ble_eq_true rfl, Nat.le_of_ble_eq_true rfl⟩ rfl (Nat.le_of_ble_eq_true rfl) (by decide +kernel) ?_
  refine g_if_ne (off := 5) (tgt := 16) (by decide +kernel) (by decide) (fun zc11 => ?_) (fun zc11 => ?_)
  · refine g_blk (pc' := 21) (loc' := [some (vR (7, 0, 0)), some (vI t)]) (st' := [vI t, vR (2, 0, 0)]) (σ' := σ) fl4_ok [(16, .aload_n 0), (17, .getfield 10), (20, .iload_n 1)] (by decide +kernel) rfl rfl ?_
    refine g_callVp (2, 0, 0) [vI t] [] vl_RX4_101 mi_X1_isOpen (c_X1_isOpen l x0 t) rfl rfl rfl rfl ⟨Nat.le_of_ble_eq_true rfl, Nat.le_of_ble_eq_true rfl⟩ rfl (Nat.le_of_ble_eq_true rfl) (by decide +kernel) ?_
    refine g_if_ne (off := 6) (tgt := 30) (by decide +kernel) (by decide) (fun zc24 => ?_) (fun zc24 => ?_)
    · refine g_blk (pc' := 38) (loc' := [some (vR (7, 0, 0)), some (vI t)]) (st' := [vR (2, 0, 0), vR (3, 0, 0)]) (σ' := σ) fl4_ok [(30, .aload_n 0), (31, .getfield 22), (34, .aload_n 0), (35, .getfield 10)] (by decide +kernel) rfl rfl ?_
      refine g_callV (3, 0, 0) [vR (2, 0, 0)] [] vl_RX4_47 mi_X0_keep (c_X0_keep l x2 x0 x5.1) rfl rfl rfl rfl ⟨Nat.le_of_ble_eq_true rfl, Nat.le_of_ble_eq_true rfl⟩ rfl (Nat.le_of_ble_eq_true rfl) (by decide +kernel) (fun o σk hPk => ?_)
      obtain ⟨rfl, k1, k2, k3⟩ := hPk
      obtain ⟨hS0, hH0⟩ := k3.house (h := 0) (by decide)
      have hHk := hH0 x0
      refine g_blk (pc' := 46) (loc' := [some (vR (7, 0, 0)), some (vI t)]) (st' := [vI t, vR (2, 0, 0)]) (σ' := σk) fl4_ok [(41, .aload_n 0), (42, .getfield 10), (45, .iload_n 1)] (by decide +kernel) rfl rfl ?_
      refine g_callV (2, 0, 0) [vI t] [] vl_RX4_104 mi_X1_finish (c_X1_finish l t hHk) rfl rfl rfl rfl ⟨Nat.le_of_ble_eq_true rfl, Nat.le_of_ble_eq_true rfl⟩ rfl (Nat.le_of_ble_eq_true rfl) (by decide +kernel) (fun o σ1 hPσ1 => ?_)
      obtain ⟨rfl, hWσ1⟩ := hPσ1
      refine g_iret (by decide +kernel) ⟨?_, ?_⟩
      · rw [xdone, if_pos zc11, if_pos zc24]
        first | rfl | (rw [hWσ1.1, hS0]; done) | (rw [hWσ1.1, hS0]; rfl) | (rw [hS0]; done) | (rw [hS0]; rfl)
      · rw [xdone, if_pos zc11, if_pos zc24]
        exact x_mut hX k1 k2 k3 (by rw [hWσ1.1, hS0] <;> rfl) hWσ1.2.1 (hWσ1.2.2) (inv_fin x5 t)
    · refine g_blk (pc' := 29) (loc' := [some (vR (7, 0, 0)), some (vI t)]) (st' := [vI (-5 : Int32)]) (σ' := σ) fl4_ok [(27, .bipush (-5))] (by decide +kernel) rfl rfl ?_
      exact g_iret (by decide +kernel) ⟨by rw [xdone, if_pos zc11, if_neg (not_not_intro zc24)], by rw [xdone, if_pos zc11, if_neg (not_not_intro zc24)]; exact XW.rf hX⟩
  · refine g_blk (pc' := 15) (loc' := [some (vR (7, 0, 0)), some (vI t)]) (st' := [vI (-1 : Int32)]) (σ' := σ) fl4_ok [(14, .iconst (-1))] (by decide +kernel) rfl rfl ?_
    exact g_iret (by decide +kernel) ⟨by rw [xdone, if_neg (not_not_intro zc11)], by rw [xdone, if_neg (not_not_intro zc11)]; exact XW.rf hX⟩
set_option maxHeartbeats 2000000 in
theorem c_X4_extra (l : Launch) {σ : Sg} (hX : XOK σ) (r a : Int32)  : Con l 4 yX4_extra cX4_extra 3 (some .int) [vR (7, 0, 0), vI r, vI a] σ (fun o σ' => o = some (vI (xextra (habs σ 0) (hist σ) (pv σ) r a).1) ∧ XW (xextra (habs σ 0) (hist σ) (pv σ) r a).2 σ σ') := by
  refine con_of pn_X4_extra (Nat.le_of_ble_eq_true rfl) (fun hPK hok => ?_)
  show G l (Rm 4) RX4 cX4_extra 3 (some .int) _ 0 [some (vR (7, 0, 0)), some (vI r), some (vI a)] [] σ
  obtain ⟨x0, x1, x2, x3, x4, x5, x6⟩ := id hX
  refine g_blk (pc' := 8) (loc' := [some (vR (7, 0, 0)), some (vI r), some (vI a)]) (st' := [vI r, vR (0, 0, 0)]) (σ' := σ) fl4_ok [(0, .aload_n 0), (1, .getfield 10), (4, .getfield 37), (7, .iload_n 1)] (by decide +kernel) rfl rfl ?_
  refine g_callVp (0, 0, 0) [vI r] [] vl_RX4_55 mi_X3_has (ct_has l x0 0 (by decide) r) rfl rfl rfl rfl ⟨Nat.le_of_ble_eq_true rfl, Nat.le_of_ble_eq_true rfl⟩ rfl (Nat.le_of_ble_eq_true rfl) (by decide +kernel) ?_
  refine g_if_eq (off := 17) (tgt := 28) (by decide +kernel) (by decide) (fun zc11 => ?_) (fun zc11 => ?_)
  · refine g_blk (pc' := 29) (loc' := [some (vR (7, 0, 0)), some (vI r), some (vI a)]) (st' := [vI (-1 : Int32)]) (σ' := σ) fl4_ok [(28, .iconst (-1))] (by decide +kernel) rfl rfl ?_
    exact g_iret (by decide +kernel) ⟨by rw [xextra, if_pos zc11], by rw [xextra, if_pos zc11]; exact XW.rf hX⟩
  · refine g_blk (pc' := 22) (loc' := [some (vR (7, 0, 0)), some (vI r), some (vI a)]) (st' := [vI a, vR (0, 1, 0)]) (σ' := σ) fl4_ok [(14, .aload_n 0), (15, .getfield 10), (18, .getfield 77), (21, .iload_n 2)] (by decide +kernel) rfl rfl ?_
    refine g_callVp (0, 1, 0) [vI a] [] vl_RX4_55 mi_X3_has (ct_has l x0 1 (by decide) a) rfl rfl rfl rfl ⟨Nat.le_of_ble_eq_true rfl, Nat.le_of_ble_eq_true rfl⟩ rfl (Nat.le_of_ble_eq_true rfl) (by decide +kernel) ?_
    refine g_if_ne (off := 5) (tgt := 30) (by decide +kernel) (by decide) (fun zc25 => ?_) (fun zc25 => ?_)
    · refine g_blk (pc' := 39) (loc' := [some (vR (7, 0, 0)), some (vI r), some (vI a)]) (st' := [vI (4 : Int32), vI r, vR (0, 0, 0)]) (σ' := σ) fl4_ok [(30, .aload_n 0), (31, .getfield 10), (34, .getfield 37), (37, .iload_n 1), (38, .iconst 4)] (by decide +kernel) rfl rfl ?_
      refine g_callVp (0, 0, 0) [vI r, vI (4 : Int32)] [] vl_RX4_107 mi_X3_cell (ct_cell l x0 0 (by decide) r (4 : Int32)) rfl rfl rfl rfl ⟨Nat.le_of_ble_eq_true rfl, Nat.le_of_ble_eq_true rfl⟩ rfl (Nat.le_of_ble_eq_true rfl) (by decide +kernel) ?_
      refine g_if_eq (off := 14) (tgt := 56) (by decide +kernel) (by decide) (fun zc42 => ?_) (fun zc42 => ?_)
      · refine g_blk (pc' := 58) (loc' := [some (vR (7, 0, 0)), some (vI r), some (vI a)]) (st' := [vI (-5 : Int32)]) (σ' := σ) fl4_ok [(56, .bipush (-5))] (by decide +kernel) rfl rfl ?_
        exact g_iret (by decide +kernel) ⟨by rw [xextra, if_neg zc11, if_pos zc25, if_pos zc42], by rw [xextra, if_neg zc11, if_pos zc25, if_pos zc42]; exact XW.rf hX⟩
      · refine g_blk (pc' := 50) (loc' := [some (vR (7, 0, 0)), some (vI r), some (vI a)]) (st' := [vI r, vR (2, 0, 0)]) (σ' := σ) fl4_ok [(45, .aload_n 0), (46, .getfield 10), (49, .iload_n 1)] (by decide +kernel) rfl rfl ?_
        refine g_callVp (2, 0, 0) [vI r] [] vl_RX4_70 mi_X1_isAway (c_X1_isAway l x0 r) rfl rfl rfl rfl ⟨Nat.le_of_ble_eq_true rfl, Nat.le_of_ble_eq_true rfl⟩ rfl (Nat.le_of_ble_eq_true rfl) (by decide +kernel) ?_
        refine g_if_eq (off := 6) (tgt := 59) (by decide +kernel) (by decide) (fun zc53 => ?_) (fun zc53 => ?_)
        · refine g_blk (pc' := 67) (loc' := [some (vR (7, 0, 0)), some (vI r), some (vI a)]) (st' := [vR (2, 0, 0), vR (3, 0, 0)]) (σ' := σ) fl4_ok [(59, .aload_n 0), (60, .getfield 22), (63, .aload_n 0), (64, .getfield 10)] (by decide +kernel) rfl rfl ?_
          refine g_callV (3, 0, 0) [vR (2, 0, 0)] [] vl_RX4_47 mi_X0_keep (c_X0_keep l x2 x0 x5.1) rfl rfl rfl rfl ⟨Nat.le_of_ble_eq_true rfl, Nat.le_of_ble_eq_true rfl⟩ rfl (Nat.le_of_ble_eq_true rfl) (by decide +kernel) (fun o σk hPk => ?_)
          obtain ⟨rfl, k1, k2, k3⟩ := hPk
          obtain ⟨hS0, hH0⟩ := k3.house (h := 0) (by decide)
          have hHk := hH0 x0
          refine g_blk (pc' := 76) (loc' := [some (vR (7, 0, 0)), some (vI r), some (vI a)]) (st' := [vI a, vI r, vR (2, 0, 0)]) (σ' := σk) fl4_ok [(70, .aload_n 0), (71, .getfield 10), (74, .iload_n 1), (75, .iload_n 2)] (by decide +kernel) rfl rfl ?_
          refine g_callV (2, 0, 0) [vI r, vI a] [] vl_RX4_111 mi_X1_payDebt (c_X1_payDebt l r a hHk) rfl rfl rfl rfl ⟨Nat.le_of_ble_eq_true rfl, Nat.le_of_ble_eq_true rfl⟩ rfl (Nat.le_of_ble_eq_true rfl) (by decide +kernel) (fun o σ1 hPσ1 => ?_)
          obtain ⟨rfl, hWσ1⟩ := hPσ1
          refine g_iret (by decide +kernel) ⟨?_, ?_⟩
          · rw [xextra, if_neg zc11, if_pos zc25, if_neg zc42, if_pos zc53]
            first | rfl | (rw [hWσ1.1, hS0]; done) | (rw [hWσ1.1, hS0]; rfl) | (rw [hS0]; done) | (rw [hS0]; rfl)
          · rw [xextra, if_neg zc11, if_pos zc25, if_neg zc42, if_pos zc53]
            exact x_mut hX k1 k2 k3 (by rw [hWσ1.1, hS0] <;> rfl) hWσ1.2.1 (hWσ1.2.2) (inv_same x5 rfl rfl)
        · refine g_blk (pc' := 58) (loc' := [some (vR (7, 0, 0)), some (vI r), some (vI a)]) (st' := [vI (-5 : Int32)]) (σ' := σ) fl4_ok [(56, .bipush (-5))] (by decide +kernel) rfl rfl ?_
          exact g_iret (by decide +kernel) ⟨by rw [xextra, if_neg zc11, if_pos zc25, if_neg zc42, if_neg zc53], by rw [xextra, if_neg zc11, if_pos zc25, if_neg zc42, if_neg zc53]; exact XW.rf hX⟩
    · refine g_blk (pc' := 29) (loc' := [some (vR (7, 0, 0)), some (vI r), some (vI a)]) (st' := [vI (-1 : Int32)]) (σ' := σ) fl4_ok [(28, .iconst (-1))] (by decide +kernel) rfl rfl ?_
      exact g_iret (by decide +kernel) ⟨by rw [xextra, if_neg zc11, if_neg (not_not_intro zc25)], by rw [xextra, if_neg zc11, if_neg (not_not_intro zc25)]; exact XW.rf hX⟩
set_option maxHeartbeats 2000000 in
theorem c_X4_end (l : Launch) {σ : Sg} (hX : XOK σ)  : Con l 4 yX4_end cX4_end 1 (some .int) [vR (7, 0, 0)] σ (fun o σ' => o = some (vI (xend (habs σ 0) (hist σ) (pv σ)).1) ∧ XW (xend (habs σ 0) (hist σ) (pv σ)).2 σ σ') := by
  refine con_of pn_X4_end (Nat.le_of_ble_eq_true rfl) (fun hPK hok => ?_)
  show G l (Rm 4) RX4 cX4_end 1 (some .int) _ 0 [some (vR (7, 0, 0))] [] σ
  obtain ⟨x0, x1, x2, x3, x4, x5, x6⟩ := id hX
  refine g_blk (pc' := 7) (loc' := [some (vR (7, 0, 0))]) (st' := [vI ((habs σ 0).2 6)]) (σ' := σ) fl4_ok [(0, .aload_n 0), (1, .getfield 10), (4, .getfield 90)] (by decide +kernel) rfl rfl ?_
  refine g_if_eq (off := 16) (tgt := 23) (by decide +kernel) (by decide) (fun zc7 => ?_) (fun zc7 => ?_)
  · refine g_blk (pc' := 25) (loc' := [some (vR (7, 0, 0))]) (st' := [vI (-5 : Int32)]) (σ' := σ) fl4_ok [(23, .bipush (-5))] (by decide +kernel) rfl rfl ?_
    exact g_iret (by decide +kernel) ⟨by rw [xend, if_pos zc7], by rw [xend, if_pos zc7]; exact XW.rf hX⟩
  · refine g_blk (pc' := 20) (loc' := [some (vR (7, 0, 0))]) (st' := [vI (999 : Int32), vI ((habs σ 0).2 5)]) (σ' := σ) fl4_ok [(10, .aload_n 0), (11, .getfield 10), (14, .getfield 114), (17, .sipush 999)] (by decide +kernel) rfl rfl ?_
    refine g_icmp_lt (off := 6) (tgt := 26) (by decide +kernel) (by decide) (fun zc20 => ?_) (fun zc20 => ?_)
    · refine g_blk (pc' := 34) (loc' := [some (vR (7, 0, 0))]) (st' := [vR (2, 0, 0), vR (3, 0, 0)]) (σ' := σ) fl4_ok [(26, .aload_n 0), (27, .getfield 22), (30, .aload_n 0), (31, .getfield 10)] (by decide +kernel) rfl rfl ?_
      refine g_callV (3, 0, 0) [vR (2, 0, 0)] [] vl_RX4_47 mi_X0_keep (c_X0_keep l x2 x0 x5.1) rfl rfl rfl rfl ⟨Nat.le_of_ble_eq_true rfl, Nat.le_of_ble_eq_true rfl⟩ rfl (Nat.le_of_ble_eq_true rfl) (by decide +kernel) (fun o σk hPk => ?_)
      obtain ⟨rfl, k1, k2, k3⟩ := hPk
      obtain ⟨hS0, hH0⟩ := k3.house (h := 0) (by decide)
      have hHk := hH0 x0
      refine g_blk (pc' := 41) (loc' := [some (vR (7, 0, 0))]) (st' := [vR (2, 0, 0)]) (σ' := σk) fl4_ok [(37, .aload_n 0), (38, .getfield 10)] (by decide +kernel) rfl rfl ?_
      refine g_callV (2, 0, 0) [] [] vl_RX4_118 mi_X1_endWeek (c_X1_endWeek l hHk) rfl rfl rfl rfl ⟨Nat.le_of_ble_eq_true rfl, Nat.le_of_ble_eq_true rfl⟩ rfl (Nat.le_of_ble_eq_true rfl) (by decide +kernel) (fun o σ1 hPσ1 => ?_)
      obtain ⟨rfl, hWσ1⟩ := hPσ1
      refine g_iret (by decide +kernel) ⟨?_, ?_⟩
      · rw [xend, if_neg zc7, if_pos zc20]
        first | rfl | (rw [hWσ1.1, hS0]; done) | (rw [hWσ1.1, hS0]; rfl) | (rw [hS0]; done) | (rw [hS0]; rfl)
      · rw [xend, if_neg zc7, if_pos zc20]
        exact x_mut hX k1 k2 k3 (by rw [hWσ1.1, hS0] <;> rfl) hWσ1.2.1 (hWσ1.2.2) (inv_end _)
    · refine g_blk (pc' := 25) (loc' := [some (vR (7, 0, 0))]) (st' := [vI (-5 : Int32)]) (σ' := σ) fl4_ok [(23, .bipush (-5))] (by decide +kernel) rfl rfl ?_
      exact g_iret (by decide +kernel) ⟨by rw [xend, if_neg zc7, if_neg zc20], by rw [xend, if_neg zc7, if_neg zc20]; exact XW.rf hX⟩
set_option maxHeartbeats 2000000 in
theorem c_X4_propose (l : Launch) {σ : Sg} (hX : XOK σ) (a b : Int32)  : Con l 4 yX4_propose cX4_propose 3 (some .int) [vR (7, 0, 0), vI a, vI b] σ (fun o σ' => o = some (vI (xpropose (habs σ 0) (hist σ) (pv σ) a b).1) ∧ XW (xpropose (habs σ 0) (hist σ) (pv σ) a b).2 σ σ') := by
  refine con_of pn_X4_propose (Nat.le_of_ble_eq_true rfl) (fun hPK hok => ?_)
  show G l (Rm 4) RX4 cX4_propose 3 (some .int) _ 0 [some (vR (7, 0, 0)), some (vI a), some (vI b)] [] σ
  obtain ⟨x0, x1, x2, x3, x4, x5, x6⟩ := id hX
  refine g_blk (pc' := 8) (loc' := [some (vR (7, 0, 0)), some (vI a), some (vI b)]) (st' := [vI a, vR (0, 2, 0)]) (σ' := σ) fl4_ok [(0, .aload_n 0), (1, .getfield 10), (4, .getfield 98), (7, .iload_n 1)] (by decide +kernel) rfl rfl ?_
  refine g_callVp (0, 2, 0) [vI a] [] vl_RX4_55 mi_X3_has (ct_has l x0 2 (by decide) a) rfl rfl rfl rfl ⟨Nat.le_of_ble_eq_true rfl, Nat.le_of_ble_eq_true rfl⟩ rfl (Nat.le_of_ble_eq_true rfl) (by decide +kernel) ?_
  refine g_if_eq (off := 17) (tgt := 28) (by decide +kernel) (by decide) (fun zc11 => ?_) (fun zc11 => ?_)
  · refine g_blk (pc' := 29) (loc' := [some (vR (7, 0, 0)), some (vI a), some (vI b)]) (st' := [vI (-1 : Int32)]) (σ' := σ) fl4_ok [(28, .iconst (-1))] (by decide +kernel) rfl rfl ?_
    exact g_iret (by decide +kernel) ⟨by rw [xpropose, if_pos zc11], by rw [xpropose, if_pos zc11]; exact XW.rf hX⟩
  · refine g_blk (pc' := 22) (loc' := [some (vR (7, 0, 0)), some (vI a), some (vI b)]) (st' := [vI b, vR (0, 2, 0)]) (σ' := σ) fl4_ok [(14, .aload_n 0), (15, .getfield 10), (18, .getfield 98), (21, .iload_n 2)] (by decide +kernel) rfl rfl ?_
    refine g_callVp (0, 2, 0) [vI b] [] vl_RX4_55 mi_X3_has (ct_has l x0 2 (by decide) b) rfl rfl rfl rfl ⟨Nat.le_of_ble_eq_true rfl, Nat.le_of_ble_eq_true rfl⟩ rfl (Nat.le_of_ble_eq_true rfl) (by decide +kernel) ?_
    refine g_if_ne (off := 5) (tgt := 30) (by decide +kernel) (by decide) (fun zc25 => ?_) (fun zc25 => ?_)
    · refine g_blk (pc' := 36) (loc' := [some (vR (7, 0, 0)), some (vI a), some (vI b)]) (st' := [vI b, vI a, vR (2, 0, 0)]) (σ' := σ) fl4_ok [(30, .aload_n 0), (31, .getfield 10), (34, .iload_n 1), (35, .iload_n 2)] (by decide +kernel) rfl rfl ?_
      refine g_callVp (2, 0, 0) [vI a, vI b] [] vl_RX4_121 mi_X1_canExchange (c_X1_canExchange l x0 a b) rfl rfl rfl rfl ⟨Nat.le_of_ble_eq_true rfl, Nat.le_of_ble_eq_true rfl⟩ rfl (Nat.le_of_ble_eq_true rfl) (by decide +kernel) ?_
      refine g_if_eq (off := 15) (tgt := 54) (by decide +kernel) (by decide) (fun zc39 => ?_) (fun zc39 => ?_)
      · refine g_blk (pc' := 56) (loc' := [some (vR (7, 0, 0)), some (vI a), some (vI b)]) (st' := [vI (-5 : Int32)]) (σ' := σ) fl4_ok [(54, .bipush (-5))] (by decide +kernel) rfl rfl ?_
        exact g_iret (by decide +kernel) ⟨by rw [xpropose, if_neg zc11, if_pos zc25, if_pos zc39], by rw [xpropose, if_neg zc11, if_pos zc25, if_pos zc39]; exact XW.rf hX⟩
      · refine g_blk (pc' := 48) (loc' := [some (vR (7, 0, 0)), some (vI a), some (vI b)]) (st' := [vI b, vI a, vR (2, 0, 0)]) (σ' := σ) fl4_ok [(42, .aload_n 0), (43, .getfield 10), (46, .iload_n 1), (47, .iload_n 2)] (by decide +kernel) rfl rfl ?_
        refine g_callVp (2, 0, 0) [vI a, vI b] [] vl_RX4_124 mi_X1_isProposed (c_X1_isProposed l x0 a b) rfl rfl rfl rfl ⟨Nat.le_of_ble_eq_true rfl, Nat.le_of_ble_eq_true rfl⟩ rfl (Nat.le_of_ble_eq_true rfl) (by decide +kernel) ?_
        refine g_if_eq (off := 6) (tgt := 57) (by decide +kernel) (by decide) (fun zc51 => ?_) (fun zc51 => ?_)
        · refine g_blk (pc' := 64) (loc' := [some (vR (7, 0, 0)), some (vI a), some (vI b)]) (st' := [vR (0, 3, 0)]) (σ' := σ) fl4_ok [(57, .aload_n 0), (58, .getfield 10), (61, .getfield 127)] (by decide +kernel) rfl rfl ?_
          refine g_callVp (0, 3, 0) [] [] vl_RX4_41 mi_X3_isFull (ct_isFull l x0 3 (by decide)) rfl rfl rfl rfl ⟨Nat.le_of_ble_eq_true rfl, Nat.le_of_ble_eq_true rfl⟩ rfl (Nat.le_of_ble_eq_true rfl) (by decide +kernel) ?_
          refine g_if_eq (off := 6) (tgt := 73) (by decide +kernel) (by decide) (fun zc67 => ?_) (fun zc67 => ?_)
          · refine g_blk (pc' := 81) (loc' := [some (vR (7, 0, 0)), some (vI a), some (vI b)]) (st' := [vR (2, 0, 0), vR (3, 0, 0)]) (σ' := σ) fl4_ok [(73, .aload_n 0), (74, .getfield 22), (77, .aload_n 0), (78, .getfield 10)] (by decide +kernel) rfl rfl ?_
            refine g_callV (3, 0, 0) [vR (2, 0, 0)] [] vl_RX4_47 mi_X0_keep (c_X0_keep l x2 x0 x5.1) rfl rfl rfl rfl ⟨Nat.le_of_ble_eq_true rfl, Nat.le_of_ble_eq_true rfl⟩ rfl (Nat.le_of_ble_eq_true rfl) (by decide +kernel) (fun o σk hPk => ?_)
            obtain ⟨rfl, k1, k2, k3⟩ := hPk
            obtain ⟨hS0, hH0⟩ := k3.house (h := 0) (by decide)
            have hHk := hH0 x0
            refine g_blk (pc' := 90) (loc' := [some (vR (7, 0, 0)), some (vI a), some (vI b)]) (st' := [vI b, vI a, vR (2, 0, 0)]) (σ' := σk) fl4_ok [(84, .aload_n 0), (85, .getfield 10), (88, .iload_n 1), (89, .iload_n 2)] (by decide +kernel) rfl rfl ?_
            refine g_callV (2, 0, 0) [vI a, vI b] [] vl_RX4_130 mi_X1_addSwap (c_X1_addSwap l a b hHk (by rw [hS0]; exact full_lt zc67)) rfl rfl rfl rfl ⟨Nat.le_of_ble_eq_true rfl, Nat.le_of_ble_eq_true rfl⟩ rfl (Nat.le_of_ble_eq_true rfl) (by decide +kernel) (fun o σ1 hPσ1 => ?_)
            obtain ⟨rfl, hWσ1⟩ := hPσ1
            refine g_iret (by decide +kernel) ⟨?_, ?_⟩
            · rw [xpropose, if_neg zc11, if_pos zc25, if_neg zc39, if_pos zc51, if_pos zc67]
              first | rfl | (rw [hWσ1.1, hS0]; done) | (rw [hWσ1.1, hS0]; rfl) | (rw [hS0]; done) | (rw [hS0]; rfl)
            · rw [xpropose, if_neg zc11, if_pos zc25, if_neg zc39, if_pos zc51, if_pos zc67]
              exact x_mut hX k1 k2 k3 (by rw [hWσ1.1, hS0] <;> rfl) hWσ1.2.1 (hWσ1.2.2) (inv_same x5 rfl rfl)
          · refine g_blk (pc' := 72) (loc' := [some (vR (7, 0, 0)), some (vI a), some (vI b)]) (st' := [vI (-4 : Int32)]) (σ' := σ) fl4_ok [(70, .bipush (-4))] (by decide +kernel) rfl rfl ?_
            exact g_iret (by decide +kernel) ⟨by rw [xpropose, if_neg zc11, if_pos zc25, if_neg zc39, if_pos zc51, if_neg zc67], by rw [xpropose, if_neg zc11, if_pos zc25, if_neg zc39, if_pos zc51, if_neg zc67]; exact XW.rf hX⟩
        · refine g_blk (pc' := 56) (loc' := [some (vR (7, 0, 0)), some (vI a), some (vI b)]) (st' := [vI (-5 : Int32)]) (σ' := σ) fl4_ok [(54, .bipush (-5))] (by decide +kernel) rfl rfl ?_
          exact g_iret (by decide +kernel) ⟨by rw [xpropose, if_neg zc11, if_pos zc25, if_neg zc39, if_neg zc51], by rw [xpropose, if_neg zc11, if_pos zc25, if_neg zc39, if_neg zc51]; exact XW.rf hX⟩
    · refine g_blk (pc' := 29) (loc' := [some (vR (7, 0, 0)), some (vI a), some (vI b)]) (st' := [vI (-1 : Int32)]) (σ' := σ) fl4_ok [(28, .iconst (-1))] (by decide +kernel) rfl rfl ?_
      exact g_iret (by decide +kernel) ⟨by rw [xpropose, if_neg zc11, if_neg (not_not_intro zc25)], by rw [xpropose, if_neg zc11, if_neg (not_not_intro zc25)]; exact XW.rf hX⟩
set_option maxHeartbeats 2000000 in
theorem c_X4_answer (l : Launch) {σ : Sg} (hX : XOK σ) (s y : Int32)  : Con l 4 yX4_answer cX4_answer 3 (some .int) [vR (7, 0, 0), vI s, vI y] σ (fun o σ' => o = some (vI (xanswer (habs σ 0) (hist σ) (pv σ) s y).1) ∧ XW (xanswer (habs σ 0) (hist σ) (pv σ) s y).2 σ σ') := by
  refine con_of pn_X4_answer (Nat.le_of_ble_eq_true rfl) (fun hPK hok => ?_)
  show G l (Rm 4) RX4 cX4_answer 3 (some .int) _ 0 [some (vR (7, 0, 0)), some (vI s), some (vI y)] [] σ
  obtain ⟨x0, x1, x2, x3, x4, x5, x6⟩ := id hX
  refine g_blk (pc' := 8) (loc' := [some (vR (7, 0, 0)), some (vI s), some (vI y)]) (st' := [vI s, vR (0, 3, 0)]) (σ' := σ) fl4_ok [(0, .aload_n 0), (1, .getfield 10), (4, .getfield 127), (7, .iload_n 1)] (by decide +kernel) rfl rfl ?_
  refine g_callVp (0, 3, 0) [vI s] [] vl_RX4_55 mi_X3_has (ct_has l x0 3 (by decide) s) rfl rfl rfl rfl ⟨Nat.le_of_ble_eq_true rfl, Nat.le_of_ble_eq_true rfl⟩ rfl (Nat.le_of_ble_eq_true rfl) (by decide +kernel) ?_
  refine g_if_ne (off := 5) (tgt := 16) (by decide +kernel) (by decide) (fun zc11 => ?_) (fun zc11 => ?_)
  · refine g_blk (pc' := 19) (loc' := [some (vR (7, 0, 0)), some (vI s), some (vI y)]) (st' := [vI (1 : Int32), vI (0 : Int32), vI y]) (σ' := σ) fl4_ok [(16, .iload_n 2), (17, .iconst 0), (18, .iconst 1)] (by decide +kernel) rfl rfl ?_
    refine g_callSp [vI y, vI (0 : Int32), vI (1 : Int32)] [] sl_RX4_62 mi_X4_isIn (c_X4_isIn l y (0 : Int32) (1 : Int32)) rfl ⟨Nat.le_of_ble_eq_true rfl, Nat.le_of_ble_eq_true rfl⟩ rfl (Nat.le_of_ble_eq_true rfl) (by decide +kernel) ?_
    refine g_if_ne (off := 6) (tgt := 28) (by decide +kernel) (by decide) (fun zc22 => ?_) (fun zc22 => ?_)
    · refine g_blk (pc' := 36) (loc' := [some (vR (7, 0, 0)), some (vI s), some (vI y)]) (st' := [vR (2, 0, 0), vR (3, 0, 0)]) (σ' := σ) fl4_ok [(28, .aload_n 0), (29, .getfield 22), (32, .aload_n 0), (33, .getfield 10)] (by decide +kernel) rfl rfl ?_
      refine g_callV (3, 0, 0) [vR (2, 0, 0)] [] vl_RX4_47 mi_X0_keep (c_X0_keep l x2 x0 x5.1) rfl rfl rfl rfl ⟨Nat.le_of_ble_eq_true rfl, Nat.le_of_ble_eq_true rfl⟩ rfl (Nat.le_of_ble_eq_true rfl) (by decide +kernel) (fun o σk hPk => ?_)
      obtain ⟨rfl, k1, k2, k3⟩ := hPk
      obtain ⟨hS0, hH0⟩ := k3.house (h := 0) (by decide)
      have hHk := hH0 x0
      refine g_blk (pc' := 41) (loc' := [some (vR (7, 0, 0)), some (vI s), some (vI y)]) (st' := [vI (1 : Int32), vI y]) (σ' := σk) fl4_ok [(39, .iload_n 2), (40, .iconst 1)] (by decide +kernel) rfl rfl ?_
      refine g_icmp_ne (off := 14) (tgt := 55) (by decide +kernel) (by decide) (fun zc41 => ?_) (fun zc41 => ?_)
      · refine g_blk (pc' := 60) (loc' := [some (vR (7, 0, 0)), some (vI s), some (vI y)]) (st' := [vI s, vR (2, 0, 0)]) (σ' := σk) fl4_ok [(55, .aload_n 0), (56, .getfield 10), (59, .iload_n 1)] (by decide +kernel) rfl rfl ?_
        obtain ⟨r, hr, rfl⟩ := has_ex (by have := ha_N x0 3 (by decide); have : mst 3 ≤ 30 := mst_le 3; omega) zc11
        refine g_callV (2, 0, 0) [vI (nI r)] [] vl_RX4_136 mi_X1_declineSwap (c_X1_declineSwap l (r := r) hHk (by rw [hS0]; exact hr)) rfl rfl rfl rfl ⟨Nat.le_of_ble_eq_true rfl, Nat.le_of_ble_eq_true rfl⟩ rfl (Nat.le_of_ble_eq_true rfl) (by decide +kernel) (fun o σ1 hPσ1 => ?_)
        obtain ⟨rfl, hWσ1⟩ := hPσ1
        refine g_iret (by decide +kernel) ⟨?_, ?_⟩
        · rw [xanswer, if_pos zc11, if_pos zc22, if_pos zc41]
          first | rfl | (rw [hWσ1.1, hS0]; done) | (rw [hWσ1.1, hS0]; rfl) | (rw [hS0]; done) | (rw [hS0]; rfl)
        · rw [xanswer, if_pos zc11, if_pos zc22, if_pos zc41]
          exact x_mut hX k1 k2 k3 (by rw [nI_clamp (by have := ha_N x0 3 (by decide); have : mst 3 ≤ 30 := mst_le 3; omega)]; rw [hWσ1.1, hS0] <;> rfl) hWσ1.2.1 (hWσ1.2.2) (inv_same x5 rfl rfl)
      · refine g_blk (pc' := 49) (loc' := [some (vR (7, 0, 0)), some (vI s), some (vI y)]) (st' := [vI s, vR (2, 0, 0)]) (σ' := σk) fl4_ok [(44, .aload_n 0), (45, .getfield 10), (48, .iload_n 1)] (by decide +kernel) rfl rfl ?_
        refine g_callV (2, 0, 0) [vI s] [] vl_RX4_133 mi_X1_acceptSwap (c_X1_acceptSwap l s hHk) rfl rfl rfl rfl ⟨Nat.le_of_ble_eq_true rfl, Nat.le_of_ble_eq_true rfl⟩ rfl (Nat.le_of_ble_eq_true rfl) (by decide +kernel) (fun o σ2 hPσ2 => ?_)
        obtain ⟨rfl, hWσ2⟩ := hPσ2
        refine g_blk (pc' := 63) (loc' := [some (vR (7, 0, 0)), some (vI s), some (vI y)]) (st' := [vI (nI (sz (accS (habs σk 0) s) 3))]) (σ' := σ2) fl4_ok [(52, .goto 11)] (by decide +kernel) rfl rfl ?_
        refine g_iret (by decide +kernel) ⟨?_, ?_⟩
        · rw [xanswer, if_pos zc11, if_pos zc22, if_neg (not_not_intro zc41)]
          first | rfl | (rw [hWσ2.1, hS0]; done) | (rw [hWσ2.1, hS0]; rfl) | (rw [hS0]; done) | (rw [hS0]; rfl)
        · rw [xanswer, if_pos zc11, if_pos zc22, if_neg (not_not_intro zc41)]
          exact x_mut hX k1 k2 k3 (by rw [hWσ2.1, hS0] <;> rfl) hWσ2.2.1 (hWσ2.2.2) (inv_same x5 rfl rfl)
    · refine g_blk (pc' := 27) (loc' := [some (vR (7, 0, 0)), some (vI s), some (vI y)]) (st' := [vI (-2 : Int32)]) (σ' := σ) fl4_ok [(25, .bipush (-2))] (by decide +kernel) rfl rfl ?_
      exact g_iret (by decide +kernel) ⟨by rw [xanswer, if_pos zc11, if_neg (not_not_intro zc22)], by rw [xanswer, if_pos zc11, if_neg (not_not_intro zc22)]; exact XW.rf hX⟩
  · refine g_blk (pc' := 15) (loc' := [some (vR (7, 0, 0)), some (vI s), some (vI y)]) (st' := [vI (-1 : Int32)]) (σ' := σ) fl4_ok [(14, .iconst (-1))] (by decide +kernel) rfl rfl ?_
    exact g_iret (by decide +kernel) ⟨by rw [xanswer, if_neg (not_not_intro zc11)], by rw [xanswer, if_neg (not_not_intro zc11)]; exact XW.rf hX⟩
set_option maxHeartbeats 2000000 in
theorem c_X4_about (l : Launch) {σ : Sg} (hX : XOK σ) (r w : Int32)  : Con l 4 yX4_about cX4_about 3 (some .int) [vR (7, 0, 0), vI r, vI w] σ (pureP (xabout (habs σ 0) r w) σ) := by
  refine con_of pn_X4_about (Nat.le_of_ble_eq_true rfl) (fun hPK hok => ?_)
  show G l (Rm 4) RX4 cX4_about 3 (some .int) _ 0 [some (vR (7, 0, 0)), some (vI r), some (vI w)] [] σ
  obtain ⟨x0, x1, x2, x3, x4, x5, x6⟩ := id hX
  refine g_blk (pc' := 8) (loc' := [some (vR (7, 0, 0)), some (vI r), some (vI w)]) (st' := [vI r, vR (0, 0, 0)]) (σ' := σ) fl4_ok [(0, .aload_n 0), (1, .getfield 10), (4, .getfield 37), (7, .iload_n 1)] (by decide +kernel) rfl rfl ?_
  refine g_callVp (0, 0, 0) [vI r] [] vl_RX4_55 mi_X3_has (ct_has l x0 0 (by decide) r) rfl rfl rfl rfl ⟨Nat.le_of_ble_eq_true rfl, Nat.le_of_ble_eq_true rfl⟩ rfl (Nat.le_of_ble_eq_true rfl) (by decide +kernel) ?_
  refine g_if_ne (off := 5) (tgt := 16) (by decide +kernel) (by decide) (fun zc11 => ?_) (fun zc11 => ?_)
  · refine g_blk (pc' := 17) (loc' := [some (vR (7, 0, 0)), some (vI r), some (vI w)]) (st' := [vI w]) (σ' := σ) fl4_ok [(16, .iload_n 2)] (by decide +kernel) rfl rfl ?_
    rcases pk_ix w (n := 9) (by decide) with zq | zq | ⟨j, hj, rfl⟩
    · refine g_tabO (dflt := 163) (lo := 0) (hi := 8) (offs := #[51, 64, 77, 90, 103, 112, 133, 142, 151]) (len := 51) (tgt := 180) (by decide +kernel) (Or.inl (tab_lo zq)) (by decide) ?_
      refine g_blk (pc' := 182) (loc' := [some (vR (7, 0, 0)), some (vI r), some (vI w)]) (st' := [vI (-2 : Int32)]) (σ' := σ) fl4_ok [(180, .bipush (-2))] (by decide +kernel) rfl rfl ?_
      exact g_iret (by decide +kernel) (by rw [xabout, if_pos zc11, sw_lo zq]; exact ⟨rfl, rfl⟩)
    · refine g_tabO (dflt := 163) (lo := 0) (hi := 8) (offs := #[51, 64, 77, 90, 103, 112, 133, 142, 151]) (len := 51) (tgt := 180) (by decide +kernel) (Or.inr (tab_hi 8 (by decide) zq)) (by decide) ?_
      refine g_blk (pc' := 182) (loc' := [some (vR (7, 0, 0)), some (vI r), some (vI w)]) (st' := [vI (-2 : Int32)]) (σ' := σ) fl4_ok [(180, .bipush (-2))] (by decide +kernel) rfl rfl ?_
      exact g_iret (by decide +kernel) (by rw [xabout, if_pos zc11, sw_hi zq]; exact ⟨rfl, rfl⟩)
    · match j, hj with
      | 0, hj =>
        refine g_tabI (dflt := 163) (lo := 0) (hi := 8) (offs := #[51, 64, 77, 90, 103, 112, 133, 142, 151]) (len := 51) (off := 51) (tgt := 68) (by decide +kernel) (by decide) (by decide) rfl (by decide) ?_
        refine g_blk (pc' := 77) (loc' := [some (vR (7, 0, 0)), some (vI r), some (vI (nI 0))]) (st' := [vI (0 : Int32), vI r, vR (0, 0, 0)]) (σ' := σ) fl4_ok [(68, .aload_n 0), (69, .getfield 10), (72, .getfield 37), (75, .iload_n 1), (76, .iconst 0)] (by decide +kernel) rfl rfl ?_
        refine g_callVp (0, 0, 0) [vI r, vI (0 : Int32)] [] vl_RX4_107 mi_X3_cell (ct_cell l x0 0 (by decide) r (0 : Int32)) rfl rfl rfl rfl ⟨Nat.le_of_ble_eq_true rfl, Nat.le_of_ble_eq_true rfl⟩ rfl (Nat.le_of_ble_eq_true rfl) (by decide +kernel) ?_
        exact g_iret (by decide +kernel) (by rw [xabout, if_pos zc11, sw_in (by decide) hj]; exact ⟨rfl, rfl⟩)
      | 1, hj =>
        refine g_tabI (dflt := 163) (lo := 0) (hi := 8) (offs := #[51, 64, 77, 90, 103, 112, 133, 142, 151]) (len := 51) (off := 64) (tgt := 81) (by decide +kernel) (by decide) (by decide) rfl (by decide) ?_
        refine g_blk (pc' := 90) (loc' := [some (vR (7, 0, 0)), some (vI r), some (vI (nI 1))]) (st' := [vI (3 : Int32), vI r, vR (0, 0, 0)]) (σ' := σ) fl4_ok [(81, .aload_n 0), (82, .getfield 10), (85, .getfield 37), (88, .iload_n 1), (89, .iconst 3)] (by decide +kernel) rfl rfl ?_
        refine g_callVp (0, 0, 0) [vI r, vI (3 : Int32)] [] vl_RX4_107 mi_X3_cell (ct_cell l x0 0 (by decide) r (3 : Int32)) rfl rfl rfl rfl ⟨Nat.le_of_ble_eq_true rfl, Nat.le_of_ble_eq_true rfl⟩ rfl (Nat.le_of_ble_eq_true rfl) (by decide +kernel) ?_
        exact g_iret (by decide +kernel) (by rw [xabout, if_pos zc11, sw_in (by decide) hj]; exact ⟨rfl, rfl⟩)
      | 2, hj =>
        refine g_tabI (dflt := 163) (lo := 0) (hi := 8) (offs := #[51, 64, 77, 90, 103, 112, 133, 142, 151]) (len := 51) (off := 77) (tgt := 94) (by decide +kernel) (by decide) (by decide) rfl (by decide) ?_
        refine g_blk (pc' := 103) (loc' := [some (vR (7, 0, 0)), some (vI r), some (vI (nI 2))]) (st' := [vI (4 : Int32), vI r, vR (0, 0, 0)]) (σ' := σ) fl4_ok [(94, .aload_n 0), (95, .getfield 10), (98, .getfield 37), (101, .iload_n 1), (102, .iconst 4)] (by decide +kernel) rfl rfl ?_
        refine g_callVp (0, 0, 0) [vI r, vI (4 : Int32)] [] vl_RX4_107 mi_X3_cell (ct_cell l x0 0 (by decide) r (4 : Int32)) rfl rfl rfl rfl ⟨Nat.le_of_ble_eq_true rfl, Nat.le_of_ble_eq_true rfl⟩ rfl (Nat.le_of_ble_eq_true rfl) (by decide +kernel) ?_
        exact g_iret (by decide +kernel) (by rw [xabout, if_pos zc11, sw_in (by decide) hj]; exact ⟨rfl, rfl⟩)
      | 3, hj =>
        refine g_tabI (dflt := 163) (lo := 0) (hi := 8) (offs := #[51, 64, 77, 90, 103, 112, 133, 142, 151]) (len := 51) (off := 90) (tgt := 107) (by decide +kernel) (by decide) (by decide) rfl (by decide) ?_
        refine g_blk (pc' := 116) (loc' := [some (vR (7, 0, 0)), some (vI r), some (vI (nI 3))]) (st' := [vI (5 : Int32), vI r, vR (0, 0, 0)]) (σ' := σ) fl4_ok [(107, .aload_n 0), (108, .getfield 10), (111, .getfield 37), (114, .iload_n 1), (115, .iconst 5)] (by decide +kernel) rfl rfl ?_
        refine g_callVp (0, 0, 0) [vI r, vI (5 : Int32)] [] vl_RX4_107 mi_X3_cell (ct_cell l x0 0 (by decide) r (5 : Int32)) rfl rfl rfl rfl ⟨Nat.le_of_ble_eq_true rfl, Nat.le_of_ble_eq_true rfl⟩ rfl (Nat.le_of_ble_eq_true rfl) (by decide +kernel) ?_
        exact g_iret (by decide +kernel) (by rw [xabout, if_pos zc11, sw_in (by decide) hj]; exact ⟨rfl, rfl⟩)
      | 4, hj =>
        refine g_tabI (dflt := 163) (lo := 0) (hi := 8) (offs := #[51, 64, 77, 90, 103, 112, 133, 142, 151]) (len := 51) (off := 103) (tgt := 120) (by decide +kernel) (by decide) (by decide) rfl (by decide) ?_
        refine g_blk (pc' := 125) (loc' := [some (vR (7, 0, 0)), some (vI r), some (vI (nI 4))]) (st' := [vI r, vR (2, 0, 0)]) (σ' := σ) fl4_ok [(120, .aload_n 0), (121, .getfield 10), (124, .iload_n 1)] (by decide +kernel) rfl rfl ?_
        refine g_callVp (2, 0, 0) [vI r] [] vl_RX4_139 mi_X1_loadOf (c_X1_loadOf l x0 r) rfl rfl rfl rfl ⟨Nat.le_of_ble_eq_true rfl, Nat.le_of_ble_eq_true rfl⟩ rfl (Nat.le_of_ble_eq_true rfl) (by decide +kernel) ?_
        exact g_iret (by decide +kernel) (by rw [xabout, if_pos zc11, sw_in (by decide) hj]; exact ⟨rfl, rfl⟩)
      | 5, hj =>
        refine g_tabI (dflt := 163) (lo := 0) (hi := 8) (offs := #[51, 64, 77, 90, 103, 112, 133, 142, 151]) (len := 51) (off := 112) (tgt := 129) (by decide +kernel) (by decide) (by decide) rfl (by decide) ?_
        refine g_blk (pc' := 143) (loc' := [some (vR (7, 0, 0)), some (vI r), some (vI (nI 5))]) (st' := [vI (3 : Int32), vI r, vR (0, 0, 0), vI r, vR (2, 0, 0)]) (σ' := σ) fl4_ok [(129, .aload_n 0), (130, .getfield 10), (133, .iload_n 1), (134, .aload_n 0), (135, .getfield 10), (138, .getfield 37), (141, .iload_n 1), (142, .iconst 3)] (by decide +kernel) rfl rfl ?_
        refine g_callVp (0, 0, 0) [vI r, vI (3 : Int32)] [vI r, vR (2, 0, 0)] vl_RX4_107 mi_X3_cell (ct_cell l x0 0 (by decide) r (3 : Int32)) rfl rfl rfl rfl ⟨Nat.le_of_ble_eq_true rfl, Nat.le_of_ble_eq_true rfl⟩ rfl (Nat.le_of_ble_eq_true rfl) (by decide +kernel) ?_
        refine g_callVp (2, 0, 0) [vI r, vI (cl (habs σ 0) 0 r (3 : Int32))] [] vl_RX4_142 mi_X1_rateOf (c_X1_rateOf l x0 r (cl (habs σ 0) 0 r (3 : Int32))) rfl rfl rfl rfl ⟨Nat.le_of_ble_eq_true rfl, Nat.le_of_ble_eq_true rfl⟩ rfl (Nat.le_of_ble_eq_true rfl) (by decide +kernel) ?_
        exact g_iret (by decide +kernel) (by rw [xabout, if_pos zc11, sw_in (by decide) hj]; exact ⟨rfl, rfl⟩)
      | 6, hj =>
        refine g_tabI (dflt := 163) (lo := 0) (hi := 8) (offs := #[51, 64, 77, 90, 103, 112, 133, 142, 151]) (len := 51) (off := 133) (tgt := 150) (by decide +kernel) (by decide) (by decide) rfl (by decide) ?_
        refine g_blk (pc' := 155) (loc' := [some (vR (7, 0, 0)), some (vI r), some (vI (nI 6))]) (st' := [vI r, vR (2, 0, 0)]) (σ' := σ) fl4_ok [(150, .aload_n 0), (151, .getfield 10), (154, .iload_n 1)] (by decide +kernel) rfl rfl ?_
        refine g_callVp (2, 0, 0) [vI r] [] vl_RX4_145 mi_X1_countOpenTasksOf (c_X1_countOpenTasksOf l x0 r) rfl rfl rfl rfl ⟨Nat.le_of_ble_eq_true rfl, Nat.le_of_ble_eq_true rfl⟩ rfl (Nat.le_of_ble_eq_true rfl) (by decide +kernel) ?_
        exact g_iret (by decide +kernel) (by rw [xabout, if_pos zc11, sw_in (by decide) hj]; exact ⟨rfl, rfl⟩)
      | 7, hj =>
        refine g_tabI (dflt := 163) (lo := 0) (hi := 8) (offs := #[51, 64, 77, 90, 103, 112, 133, 142, 151]) (len := 51) (off := 142) (tgt := 159) (by decide +kernel) (by decide) (by decide) rfl (by decide) ?_
        refine g_blk (pc' := 164) (loc' := [some (vR (7, 0, 0)), some (vI r), some (vI (nI 7))]) (st' := [vI r, vR (2, 0, 0)]) (σ' := σ) fl4_ok [(159, .aload_n 0), (160, .getfield 10), (163, .iload_n 1)] (by decide +kernel) rfl rfl ?_
        refine g_callVp (2, 0, 0) [vI r] [] vl_RX4_148 mi_X1_firstOpenTaskOf (c_X1_firstOpenTaskOf l x0 r) rfl rfl rfl rfl ⟨Nat.le_of_ble_eq_true rfl, Nat.le_of_ble_eq_true rfl⟩ rfl (Nat.le_of_ble_eq_true rfl) (by decide +kernel) ?_
        exact g_iret (by decide +kernel) (by rw [xabout, if_pos zc11, sw_in (by decide) hj]; exact ⟨rfl, rfl⟩)
      | 8, hj =>
        refine g_tabI (dflt := 163) (lo := 0) (hi := 8) (offs := #[51, 64, 77, 90, 103, 112, 133, 142, 151]) (len := 51) (off := 151) (tgt := 168) (by decide +kernel) (by decide) (by decide) rfl (by decide) ?_
        refine g_blk (pc' := 173) (loc' := [some (vR (7, 0, 0)), some (vI r), some (vI (nI 8))]) (st' := [vI r, vR (2, 0, 0)]) (σ' := σ) fl4_ok [(168, .aload_n 0), (169, .getfield 10), (172, .iload_n 1)] (by decide +kernel) rfl rfl ?_
        refine g_callVp (2, 0, 0) [vI r] [] vl_RX4_70 mi_X1_isAway (c_X1_isAway l x0 r) rfl rfl rfl rfl ⟨Nat.le_of_ble_eq_true rfl, Nat.le_of_ble_eq_true rfl⟩ rfl (Nat.le_of_ble_eq_true rfl) (by decide +kernel) ?_
        refine g_callSp [vI (awayS (habs σ 0) r)] [] sl_RX4_73 mi_X4_bit (c_X4_bit l (awayS (habs σ 0) r)) rfl ⟨Nat.le_of_ble_eq_true rfl, Nat.le_of_ble_eq_true rfl⟩ rfl (Nat.le_of_ble_eq_true rfl) (by decide +kernel) ?_
        exact g_iret (by decide +kernel) (by rw [xabout, if_pos zc11, sw_in (by decide) hj]; exact ⟨rfl, rfl⟩)
      | j + 9, hj => exact absurd hj (by omega)
  · refine g_blk (pc' := 15) (loc' := [some (vR (7, 0, 0)), some (vI r), some (vI w)]) (st' := [vI (-1 : Int32)]) (σ' := σ) fl4_ok [(14, .iconst (-1))] (by decide +kernel) rfl rfl ?_
    exact g_iret (by decide +kernel) (by rw [xabout, if_neg (not_not_intro zc11)]; exact ⟨rfl, rfl⟩)
set_option maxHeartbeats 2000000 in
theorem c_X4_room (l : Launch) {σ : Sg} (hX : XOK σ) (a w : Int32)  : Con l 3 yX4_room cX4_room 3 (some .int) [vR (7, 0, 0), vI a, vI w] σ (pureP (xroom (habs σ 0) a w) σ) := by
  refine con_of pn_X4_room (Nat.le_of_ble_eq_true rfl) (fun hPK hok => ?_)
  show G l (Rm 3) RX4 cX4_room 3 (some .int) _ 0 [some (vR (7, 0, 0)), some (vI a), some (vI w)] [] σ
  obtain ⟨x0, x1, x2, x3, x4, x5, x6⟩ := id hX
  refine g_blk (pc' := 8) (loc' := [some (vR (7, 0, 0)), some (vI a), some (vI w)]) (st' := [vI a, vR (0, 1, 0)]) (σ' := σ) fl4_ok [(0, .aload_n 0), (1, .getfield 10), (4, .getfield 77), (7, .iload_n 1)] (by decide +kernel) rfl rfl ?_
  refine g_callVp (0, 1, 0) [vI a] [] vl_RX4_55 mi_X3_has (ct_has l x0 1 (by decide) a) rfl rfl rfl rfl ⟨Nat.le_of_ble_eq_true rfl, Nat.le_of_ble_eq_true rfl⟩ rfl (Nat.le_of_ble_eq_true rfl) (by decide +kernel) ?_
  refine g_if_ne (off := 5) (tgt := 16) (by decide +kernel) (by decide) (fun zc11 => ?_) (fun zc11 => ?_)
  · refine g_blk (pc' := 17) (loc' := [some (vR (7, 0, 0)), some (vI a), some (vI w)]) (st' := [vI w]) (σ' := σ) fl4_ok [(16, .iload_n 2)] (by decide +kernel) rfl rfl ?_
    rcases pk_ix w (n := 7) (by decide) with zq | zq | ⟨j, hj, rfl⟩
    · refine g_tabO (dflt := 132) (lo := 0) (hi := 6) (offs := #[43, 56, 69, 82, 95, 107, 119]) (len := 43) (tgt := 149) (by decide +kernel) (Or.inl (tab_lo zq)) (by decide) ?_
      refine g_blk (pc' := 151) (loc' := [some (vR (7, 0, 0)), some (vI a), some (vI w)]) (st' := [vI (-2 : Int32)]) (σ' := σ) fl4_ok [(149, .bipush (-2))] (by decide +kernel) rfl rfl ?_
      exact g_iret (by decide +kernel) (by rw [xroom, if_pos zc11, sw_lo zq]; exact ⟨rfl, rfl⟩)
    · refine g_tabO (dflt := 132) (lo := 0) (hi := 6) (offs := #[43, 56, 69, 82, 95, 107, 119]) (len := 43) (tgt := 149) (by decide +kernel) (Or.inr (tab_hi 6 (by decide) zq)) (by decide) ?_
      refine g_blk (pc' := 151) (loc' := [some (vR (7, 0, 0)), some (vI a), some (vI w)]) (st' := [vI (-2 : Int32)]) (σ' := σ) fl4_ok [(149, .bipush (-2))] (by decide +kernel) rfl rfl ?_
      exact g_iret (by decide +kernel) (by rw [xroom, if_pos zc11, sw_hi zq]; exact ⟨rfl, rfl⟩)
    · match j, hj with
      | 0, hj =>
        refine g_tabI (dflt := 132) (lo := 0) (hi := 6) (offs := #[43, 56, 69, 82, 95, 107, 119]) (len := 43) (off := 43) (tgt := 60) (by decide +kernel) (by decide) (by decide) rfl (by decide) ?_
        refine g_blk (pc' := 69) (loc' := [some (vR (7, 0, 0)), some (vI a), some (vI (nI 0))]) (st' := [vI (0 : Int32), vI a, vR (0, 1, 0)]) (σ' := σ) fl4_ok [(60, .aload_n 0), (61, .getfield 10), (64, .getfield 77), (67, .iload_n 1), (68, .iconst 0)] (by decide +kernel) rfl rfl ?_
        refine g_callVp (0, 1, 0) [vI a, vI (0 : Int32)] [] vl_RX4_107 mi_X3_cell (ct_cell l x0 1 (by decide) a (0 : Int32)) rfl rfl rfl rfl ⟨Nat.le_of_ble_eq_true rfl, Nat.le_of_ble_eq_true rfl⟩ rfl (Nat.le_of_ble_eq_true rfl) (by decide +kernel) ?_
        exact g_iret (by decide +kernel) (by rw [xroom, if_pos zc11, sw_in (by decide) hj]; exact ⟨rfl, rfl⟩)
      | 1, hj =>
        refine g_tabI (dflt := 132) (lo := 0) (hi := 6) (offs := #[43, 56, 69, 82, 95, 107, 119]) (len := 43) (off := 56) (tgt := 73) (by decide +kernel) (by decide) (by decide) rfl (by decide) ?_
        refine g_blk (pc' := 82) (loc' := [some (vR (7, 0, 0)), some (vI a), some (vI (nI 1))]) (st' := [vI (1 : Int32), vI a, vR (0, 1, 0)]) (σ' := σ) fl4_ok [(73, .aload_n 0), (74, .getfield 10), (77, .getfield 77), (80, .iload_n 1), (81, .iconst 1)] (by decide +kernel) rfl rfl ?_
        refine g_callVp (0, 1, 0) [vI a, vI (1 : Int32)] [] vl_RX4_107 mi_X3_cell (ct_cell l x0 1 (by decide) a (1 : Int32)) rfl rfl rfl rfl ⟨Nat.le_of_ble_eq_true rfl, Nat.le_of_ble_eq_true rfl⟩ rfl (Nat.le_of_ble_eq_true rfl) (by decide +kernel) ?_
        exact g_iret (by decide +kernel) (by rw [xroom, if_pos zc11, sw_in (by decide) hj]; exact ⟨rfl, rfl⟩)
      | 2, hj =>
        refine g_tabI (dflt := 132) (lo := 0) (hi := 6) (offs := #[43, 56, 69, 82, 95, 107, 119]) (len := 43) (off := 69) (tgt := 86) (by decide +kernel) (by decide) (by decide) rfl (by decide) ?_
        refine g_blk (pc' := 95) (loc' := [some (vR (7, 0, 0)), some (vI a), some (vI (nI 2))]) (st' := [vI (2 : Int32), vI a, vR (0, 1, 0)]) (σ' := σ) fl4_ok [(86, .aload_n 0), (87, .getfield 10), (90, .getfield 77), (93, .iload_n 1), (94, .iconst 2)] (by decide +kernel) rfl rfl ?_
        refine g_callVp (0, 1, 0) [vI a, vI (2 : Int32)] [] vl_RX4_107 mi_X3_cell (ct_cell l x0 1 (by decide) a (2 : Int32)) rfl rfl rfl rfl ⟨Nat.le_of_ble_eq_true rfl, Nat.le_of_ble_eq_true rfl⟩ rfl (Nat.le_of_ble_eq_true rfl) (by decide +kernel) ?_
        exact g_iret (by decide +kernel) (by rw [xroom, if_pos zc11, sw_in (by decide) hj]; exact ⟨rfl, rfl⟩)
      | 3, hj =>
        refine g_tabI (dflt := 132) (lo := 0) (hi := 6) (offs := #[43, 56, 69, 82, 95, 107, 119]) (len := 43) (off := 82) (tgt := 99) (by decide +kernel) (by decide) (by decide) rfl (by decide) ?_
        refine g_blk (pc' := 108) (loc' := [some (vR (7, 0, 0)), some (vI a), some (vI (nI 3))]) (st' := [vI (3 : Int32), vI a, vR (0, 1, 0)]) (σ' := σ) fl4_ok [(99, .aload_n 0), (100, .getfield 10), (103, .getfield 77), (106, .iload_n 1), (107, .iconst 3)] (by decide +kernel) rfl rfl ?_
        refine g_callVp (0, 1, 0) [vI a, vI (3 : Int32)] [] vl_RX4_107 mi_X3_cell (ct_cell l x0 1 (by decide) a (3 : Int32)) rfl rfl rfl rfl ⟨Nat.le_of_ble_eq_true rfl, Nat.le_of_ble_eq_true rfl⟩ rfl (Nat.le_of_ble_eq_true rfl) (by decide +kernel) ?_
        exact g_iret (by decide +kernel) (by rw [xroom, if_pos zc11, sw_in (by decide) hj]; exact ⟨rfl, rfl⟩)
      | 4, hj =>
        refine g_tabI (dflt := 132) (lo := 0) (hi := 6) (offs := #[43, 56, 69, 82, 95, 107, 119]) (len := 43) (off := 95) (tgt := 112) (by decide +kernel) (by decide) (by decide) rfl (by decide) ?_
        refine g_blk (pc' := 117) (loc' := [some (vR (7, 0, 0)), some (vI a), some (vI (nI 4))]) (st' := [vI a, vR (2, 0, 0)]) (σ' := σ) fl4_ok [(112, .aload_n 0), (113, .getfield 10), (116, .iload_n 1)] (by decide +kernel) rfl rfl ?_
        refine g_callVp (2, 0, 0) [vI a] [] vl_RX4_151 mi_X1_needsDeepClean (c_X1_needsDeepClean l x0 a) rfl rfl rfl rfl ⟨Nat.le_of_ble_eq_true rfl, Nat.le_of_ble_eq_true rfl⟩ rfl (Nat.le_of_ble_eq_true rfl) (by decide +kernel) ?_
        refine g_callSp [vI (deepS (habs σ 0) a)] [] sl_RX4_73 mi_X4_bit (c_X4_bit l (deepS (habs σ 0) a)) rfl ⟨Nat.le_of_ble_eq_true rfl, Nat.le_of_ble_eq_true rfl⟩ rfl (Nat.le_of_ble_eq_true rfl) (by decide +kernel) ?_
        exact g_iret (by decide +kernel) (by rw [xroom, if_pos zc11, sw_in (by decide) hj]; exact ⟨rfl, rfl⟩)
      | 5, hj =>
        refine g_tabI (dflt := 132) (lo := 0) (hi := 6) (offs := #[43, 56, 69, 82, 95, 107, 119]) (len := 43) (off := 107) (tgt := 124) (by decide +kernel) (by decide) (by decide) rfl (by decide) ?_
        refine g_blk (pc' := 129) (loc' := [some (vR (7, 0, 0)), some (vI a), some (vI (nI 5))]) (st' := [vI a, vR (2, 0, 0)]) (σ' := σ) fl4_ok [(124, .aload_n 0), (125, .getfield 10), (128, .iload_n 1)] (by decide +kernel) rfl rfl ?_
        refine g_callVp (2, 0, 0) [vI a] [] vl_RX4_154 mi_X1_isDue (c_X1_isDue l x0 a) rfl rfl rfl rfl ⟨Nat.le_of_ble_eq_true rfl, Nat.le_of_ble_eq_true rfl⟩ rfl (Nat.le_of_ble_eq_true rfl) (by decide +kernel) ?_
        refine g_callSp [vI (dueS (habs σ 0) a)] [] sl_RX4_73 mi_X4_bit (c_X4_bit l (dueS (habs σ 0) a)) rfl ⟨Nat.le_of_ble_eq_true rfl, Nat.le_of_ble_eq_true rfl⟩ rfl (Nat.le_of_ble_eq_true rfl) (by decide +kernel) ?_
        exact g_iret (by decide +kernel) (by rw [xroom, if_pos zc11, sw_in (by decide) hj]; exact ⟨rfl, rfl⟩)
      | 6, hj =>
        refine g_tabI (dflt := 132) (lo := 0) (hi := 6) (offs := #[43, 56, 69, 82, 95, 107, 119]) (len := 43) (off := 119) (tgt := 136) (by decide +kernel) (by decide) (by decide) rfl (by decide) ?_
        refine g_blk (pc' := 145) (loc' := [some (vR (7, 0, 0)), some (vI a), some (vI (nI 6))]) (st' := [vI (4 : Int32), vI a, vR (0, 1, 0)]) (σ' := σ) fl4_ok [(136, .aload_n 0), (137, .getfield 10), (140, .getfield 77), (143, .iload_n 1), (144, .iconst 4)] (by decide +kernel) rfl rfl ?_
        refine g_callVp (0, 1, 0) [vI a, vI (4 : Int32)] [] vl_RX4_107 mi_X3_cell (ct_cell l x0 1 (by decide) a (4 : Int32)) rfl rfl rfl rfl ⟨Nat.le_of_ble_eq_true rfl, Nat.le_of_ble_eq_true rfl⟩ rfl (Nat.le_of_ble_eq_true rfl) (by decide +kernel) ?_
        exact g_iret (by decide +kernel) (by rw [xroom, if_pos zc11, sw_in (by decide) hj]; exact ⟨rfl, rfl⟩)
      | j + 7, hj => exact absurd hj (by omega)
  · refine g_blk (pc' := 15) (loc' := [some (vR (7, 0, 0)), some (vI a), some (vI w)]) (st' := [vI (-1 : Int32)]) (σ' := σ) fl4_ok [(14, .iconst (-1))] (by decide +kernel) rfl rfl ?_
    exact g_iret (by decide +kernel) (by rw [xroom, if_neg (not_not_intro zc11)]; exact ⟨rfl, rfl⟩)
set_option maxHeartbeats 2000000 in
theorem c_X4_task (l : Launch) {σ : Sg} (hX : XOK σ) (t w : Int32)  : Con l 1 yX4_task cX4_task 3 (some .int) [vR (7, 0, 0), vI t, vI w] σ (pureP (xtask (habs σ 0) t w) σ) := by
  refine con_of pn_X4_task (Nat.le_of_ble_eq_true rfl) (fun hPK hok => ?_)
  show G l (Rm 1) RX4 cX4_task 3 (some .int) _ 0 [some (vR (7, 0, 0)), some (vI t), some (vI w)] [] σ
  obtain ⟨x0, x1, x2, x3, x4, x5, x6⟩ := id hX
  refine g_blk (pc' := 8) (loc' := [some (vR (7, 0, 0)), some (vI t), some (vI w)]) (st' := [vI t, vR (0, 2, 0)]) (σ' := σ) fl4_ok [(0, .aload_n 0), (1, .getfield 10), (4, .getfield 98), (7, .iload_n 1)] (by decide +kernel) rfl rfl ?_
  refine g_callVp (0, 2, 0) [vI t] [] vl_RX4_55 mi_X3_has (ct_has l x0 2 (by decide) t) rfl rfl rfl rfl ⟨Nat.le_of_ble_eq_true rfl, Nat.le_of_ble_eq_true rfl⟩ rfl (Nat.le_of_ble_eq_true rfl) (by decide +kernel) ?_
  refine g_if_ne (off := 5) (tgt := 16) (by decide +kernel) (by decide) (fun zc11 => ?_) (fun zc11 => ?_)
  · refine g_blk (pc' := 17) (loc' := [some (vR (7, 0, 0)), some (vI t), some (vI w)]) (st' := [vI w]) (σ' := σ) fl4_ok [(16, .iload_n 2)] (by decide +kernel) rfl rfl ?_
    rcases pk_ix w (n := 5) (by decide) with zq | zq | ⟨j, hj, rfl⟩
    · refine g_tabO (dflt := 100) (lo := 0) (hi := 4) (offs := #[35, 48, 61, 74, 87]) (len := 35) (tgt := 117) (by decide +kernel) (Or.inl (tab_lo zq)) (by decide) ?_
      refine g_blk (pc' := 119) (loc' := [some (vR (7, 0, 0)), some (vI t), some (vI w)]) (st' := [vI (-2 : Int32)]) (σ' := σ) fl4_ok [(117, .bipush (-2))] (by decide +kernel) rfl rfl ?_
      exact g_iret (by decide +kernel) (by rw [xtask, if_pos zc11, sw_lo zq]; exact ⟨rfl, rfl⟩)
    · refine g_tabO (dflt := 100) (lo := 0) (hi := 4) (offs := #[35, 48, 61, 74, 87]) (len := 35) (tgt := 117) (by decide +kernel) (Or.inr (tab_hi 4 (by decide) zq)) (by decide) ?_
      refine g_blk (pc' := 119) (loc' := [some (vR (7, 0, 0)), some (vI t), some (vI w)]) (st' := [vI (-2 : Int32)]) (σ' := σ) fl4_ok [(117, .bipush (-2))] (by decide +kernel) rfl rfl ?_
      exact g_iret (by decide +kernel) (by rw [xtask, if_pos zc11, sw_hi zq]; exact ⟨rfl, rfl⟩)
    · match j, hj with
      | 0, hj =>
        refine g_tabI (dflt := 100) (lo := 0) (hi := 4) (offs := #[35, 48, 61, 74, 87]) (len := 35) (off := 35) (tgt := 52) (by decide +kernel) (by decide) (by decide) rfl (by decide) ?_
        refine g_blk (pc' := 61) (loc' := [some (vR (7, 0, 0)), some (vI t), some (vI (nI 0))]) (st' := [vI (0 : Int32), vI t, vR (0, 2, 0)]) (σ' := σ) fl4_ok [(52, .aload_n 0), (53, .getfield 10), (56, .getfield 98), (59, .iload_n 1), (60, .iconst 0)] (by decide +kernel) rfl rfl ?_
        refine g_callVp (0, 2, 0) [vI t, vI (0 : Int32)] [] vl_RX4_107 mi_X3_cell (ct_cell l x0 2 (by decide) t (0 : Int32)) rfl rfl rfl rfl ⟨Nat.le_of_ble_eq_true rfl, Nat.le_of_ble_eq_true rfl⟩ rfl (Nat.le_of_ble_eq_true rfl) (by decide +kernel) ?_
        exact g_iret (by decide +kernel) (by rw [xtask, if_pos zc11, sw_in (by decide) hj]; exact ⟨rfl, rfl⟩)
      | 1, hj =>
        refine g_tabI (dflt := 100) (lo := 0) (hi := 4) (offs := #[35, 48, 61, 74, 87]) (len := 35) (off := 48) (tgt := 65) (by decide +kernel) (by decide) (by decide) rfl (by decide) ?_
        refine g_blk (pc' := 74) (loc' := [some (vR (7, 0, 0)), some (vI t), some (vI (nI 1))]) (st' := [vI (1 : Int32), vI t, vR (0, 2, 0)]) (σ' := σ) fl4_ok [(65, .aload_n 0), (66, .getfield 10), (69, .getfield 98), (72, .iload_n 1), (73, .iconst 1)] (by decide +kernel) rfl rfl ?_
        refine g_callVp (0, 2, 0) [vI t, vI (1 : Int32)] [] vl_RX4_107 mi_X3_cell (ct_cell l x0 2 (by decide) t (1 : Int32)) rfl rfl rfl rfl ⟨Nat.le_of_ble_eq_true rfl, Nat.le_of_ble_eq_true rfl⟩ rfl (Nat.le_of_ble_eq_true rfl) (by decide +kernel) ?_
        exact g_iret (by decide +kernel) (by rw [xtask, if_pos zc11, sw_in (by decide) hj]; exact ⟨rfl, rfl⟩)
      | 2, hj =>
        refine g_tabI (dflt := 100) (lo := 0) (hi := 4) (offs := #[35, 48, 61, 74, 87]) (len := 35) (off := 61) (tgt := 78) (by decide +kernel) (by decide) (by decide) rfl (by decide) ?_
        refine g_blk (pc' := 87) (loc' := [some (vR (7, 0, 0)), some (vI t), some (vI (nI 2))]) (st' := [vI (2 : Int32), vI t, vR (0, 2, 0)]) (σ' := σ) fl4_ok [(78, .aload_n 0), (79, .getfield 10), (82, .getfield 98), (85, .iload_n 1), (86, .iconst 2)] (by decide +kernel) rfl rfl ?_
        refine g_callVp (0, 2, 0) [vI t, vI (2 : Int32)] [] vl_RX4_107 mi_X3_cell (ct_cell l x0 2 (by decide) t (2 : Int32)) rfl rfl rfl rfl ⟨Nat.le_of_ble_eq_true rfl, Nat.le_of_ble_eq_true rfl⟩ rfl (Nat.le_of_ble_eq_true rfl) (by decide +kernel) ?_
        exact g_iret (by decide +kernel) (by rw [xtask, if_pos zc11, sw_in (by decide) hj]; exact ⟨rfl, rfl⟩)
      | 3, hj =>
        refine g_tabI (dflt := 100) (lo := 0) (hi := 4) (offs := #[35, 48, 61, 74, 87]) (len := 35) (off := 74) (tgt := 91) (by decide +kernel) (by decide) (by decide) rfl (by decide) ?_
        refine g_blk (pc' := 100) (loc' := [some (vR (7, 0, 0)), some (vI t), some (vI (nI 3))]) (st' := [vI (3 : Int32), vI t, vR (0, 2, 0)]) (σ' := σ) fl4_ok [(91, .aload_n 0), (92, .getfield 10), (95, .getfield 98), (98, .iload_n 1), (99, .iconst 3)] (by decide +kernel) rfl rfl ?_
        refine g_callVp (0, 2, 0) [vI t, vI (3 : Int32)] [] vl_RX4_107 mi_X3_cell (ct_cell l x0 2 (by decide) t (3 : Int32)) rfl rfl rfl rfl ⟨Nat.le_of_ble_eq_true rfl, Nat.le_of_ble_eq_true rfl⟩ rfl (Nat.le_of_ble_eq_true rfl) (by decide +kernel) ?_
        exact g_iret (by decide +kernel) (by rw [xtask, if_pos zc11, sw_in (by decide) hj]; exact ⟨rfl, rfl⟩)
      | 4, hj =>
        refine g_tabI (dflt := 100) (lo := 0) (hi := 4) (offs := #[35, 48, 61, 74, 87]) (len := 35) (off := 87) (tgt := 104) (by decide +kernel) (by decide) (by decide) rfl (by decide) ?_
        refine g_blk (pc' := 113) (loc' := [some (vR (7, 0, 0)), some (vI t), some (vI (nI 4))]) (st' := [vI (4 : Int32), vI t, vR (0, 2, 0)]) (σ' := σ) fl4_ok [(104, .aload_n 0), (105, .getfield 10), (108, .getfield 98), (111, .iload_n 1), (112, .iconst 4)] (by decide +kernel) rfl rfl ?_
        refine g_callVp (0, 2, 0) [vI t, vI (4 : Int32)] [] vl_RX4_107 mi_X3_cell (ct_cell l x0 2 (by decide) t (4 : Int32)) rfl rfl rfl rfl ⟨Nat.le_of_ble_eq_true rfl, Nat.le_of_ble_eq_true rfl⟩ rfl (Nat.le_of_ble_eq_true rfl) (by decide +kernel) ?_
        exact g_iret (by decide +kernel) (by rw [xtask, if_pos zc11, sw_in (by decide) hj]; exact ⟨rfl, rfl⟩)
      | j + 5, hj => exact absurd hj (by omega)
  · refine g_blk (pc' := 15) (loc' := [some (vR (7, 0, 0)), some (vI t), some (vI w)]) (st' := [vI (-1 : Int32)]) (σ' := σ) fl4_ok [(14, .iconst (-1))] (by decide +kernel) rfl rfl ?_
    exact g_iret (by decide +kernel) (by rw [xtask, if_neg (not_not_intro zc11)]; exact ⟨rfl, rfl⟩)
set_option maxHeartbeats 2000000 in
theorem c_X4_swap (l : Launch) {σ : Sg} (hX : XOK σ) (s w : Int32)  : Con l 1 yX4_swap cX4_swap 5 (some .int) [vR (7, 0, 0), vI s, vI w] σ (pureP (xswap (habs σ 0) s w) σ) := by
  refine con_of pn_X4_swap (Nat.le_of_ble_eq_true rfl) (fun hPK hok => ?_)
  show G l (Rm 1) RX4 cX4_swap 5 (some .int) _ 0 [some (vR (7, 0, 0)), some (vI s), some (vI w), none, none] [] σ
  obtain ⟨x0, x1, x2, x3, x4, x5, x6⟩ := id hX
  refine g_blk (pc' := 8) (loc' := [some (vR (7, 0, 0)), some (vI s), some (vI w), none, none]) (st' := [vI s, vR (0, 3, 0)]) (σ' := σ) fl4_ok [(0, .aload_n 0), (1, .getfield 10), (4, .getfield 127), (7, .iload_n 1)] (by decide +kernel) rfl rfl ?_
  refine g_callVp (0, 3, 0) [vI s] [] vl_RX4_55 mi_X3_has (ct_has l x0 3 (by decide) s) rfl rfl rfl rfl ⟨Nat.le_of_ble_eq_true rfl, Nat.le_of_ble_eq_true rfl⟩ rfl (Nat.le_of_ble_eq_true rfl) (by decide +kernel) ?_
  refine g_if_ne (off := 5) (tgt := 16) (by decide +kernel) (by decide) (fun zc11 => ?_) (fun zc11 => ?_)
  · refine g_blk (pc' := 25) (loc' := [some (vR (7, 0, 0)), some (vI s), some (vI w), none, none]) (st' := [vI (0 : Int32), vI s, vR (0, 3, 0)]) (σ' := σ) fl4_ok [(16, .aload_n 0), (17, .getfield 10), (20, .getfield 127), (23, .iload_n 1), (24, .iconst 0)] (by decide +kernel) rfl rfl ?_
    refine g_callVp (0, 3, 0) [vI s, vI (0 : Int32)] [] vl_RX4_107 mi_X3_cell (ct_cell l x0 3 (by decide) s (0 : Int32)) rfl rfl rfl rfl ⟨Nat.le_of_ble_eq_true rfl, Nat.le_of_ble_eq_true rfl⟩ rfl (Nat.le_of_ble_eq_true rfl) (by decide +kernel) ?_
    refine g_blk (pc' := 38) (loc' := [some (vR (7, 0, 0)), some (vI s), some (vI w), some (vI (cl (habs σ 0) 3 s (0 : Int32))), none]) (st' := [vI (1 : Int32), vI s, vR (0, 3, 0)]) (σ' := σ) fl4_ok [(28, .istore_n 3), (29, .aload_n 0), (30, .getfield 10), (33, .getfield 127), (36, .iload_n 1), (37, .iconst 1)] (by decide +kernel) rfl rfl ?_
    refine g_callVp (0, 3, 0) [vI s, vI (1 : Int32)] [] vl_RX4_107 mi_X3_cell (ct_cell l x0 3 (by decide) s (1 : Int32)) rfl rfl rfl rfl ⟨Nat.le_of_ble_eq_true rfl, Nat.le_of_ble_eq_true rfl⟩ rfl (Nat.le_of_ble_eq_true rfl) (by decide +kernel) ?_
    refine g_blk (pc' := 44) (loc' := [some (vR (7, 0, 0)), some (vI s), some (vI w), some (vI (cl (habs σ 0) 3 s (0 : Int32))), some (vI (cl (habs σ 0) 3 s (1 : Int32)))]) (st' := [vI w]) (σ' := σ) fl4_ok [(41, .istore 4), (43, .iload_n 2)] (by decide +kernel) rfl rfl ?_
    rcases pk_ix w (n := 4) (by decide) with zq | zq | ⟨j, hj, rfl⟩
    · refine g_tabO (dflt := 64) (lo := 0) (hi := 3) (offs := #[32, 34, 37, 50]) (len := 32) (tgt := 108) (by decide +kernel) (Or.inl (tab_lo zq)) (by decide) ?_
      refine g_blk (pc' := 110) (loc' := [some (vR (7, 0, 0)), some (vI s), some (vI w), some (vI (cl (habs σ 0) 3 s (0 : Int32))), some (vI (cl (habs σ 0) 3 s (1 : Int32)))]) (st' := [vI (-2 : Int32)]) (σ' := σ) fl4_ok [(108, .bipush (-2))] (by decide +kernel) rfl rfl ?_
      exact g_iret (by decide +kernel) (by rw [xswap, if_pos zc11, sw_lo zq]; exact ⟨rfl, rfl⟩)
    · refine g_tabO (dflt := 64) (lo := 0) (hi := 3) (offs := #[32, 34, 37, 50]) (len := 32) (tgt := 108) (by decide +kernel) (Or.inr (tab_hi 3 (by decide) zq)) (by decide) ?_
      refine g_blk (pc' := 110) (loc' := [some (vR (7, 0, 0)), some (vI s), some (vI w), some (vI (cl (habs σ 0) 3 s (0 : Int32))), some (vI (cl (habs σ 0) 3 s (1 : Int32)))]) (st' := [vI (-2 : Int32)]) (σ' := σ) fl4_ok [(108, .bipush (-2))] (by decide +kernel) rfl rfl ?_
      exact g_iret (by decide +kernel) (by rw [xswap, if_pos zc11, sw_hi zq]; exact ⟨rfl, rfl⟩)
    · match j, hj with
      | 0, hj =>
        refine g_tabI (dflt := 64) (lo := 0) (hi := 3) (offs := #[32, 34, 37, 50]) (len := 32) (off := 32) (tgt := 76) (by decide +kernel) (by decide) (by decide) rfl (by decide) ?_
        refine g_blk (pc' := 77) (loc' := [some (vR (7, 0, 0)), some (vI s), some (vI (nI 0)), some (vI (cl (habs σ 0) 3 s (0 : Int32))), some (vI (cl (habs σ 0) 3 s (1 : Int32)))]) (st' := [vI (cl (habs σ 0) 3 s (0 : Int32))]) (σ' := σ) fl4_ok [(76, .iload_n 3)] (by decide +kernel) rfl rfl ?_
        exact g_iret (by decide +kernel) (by rw [xswap, if_pos zc11, sw_in (by decide) hj]; exact ⟨rfl, rfl⟩)
      | 1, hj =>
        refine g_tabI (dflt := 64) (lo := 0) (hi := 3) (offs := #[32, 34, 37, 50]) (len := 32) (off := 34) (tgt := 78) (by decide +kernel) (by decide) (by decide) rfl (by decide) ?_
        refine g_blk (pc' := 80) (loc' := [some (vR (7, 0, 0)), some (vI s), some (vI (nI 1)), some (vI (cl (habs σ 0) 3 s (0 : Int32))), some (vI (cl (habs σ 0) 3 s (1 : Int32)))]) (st' := [vI (cl (habs σ 0) 3 s (1 : Int32))]) (σ' := σ) fl4_ok [(78, .iload 4)] (by decide +kernel) rfl rfl ?_
        exact g_iret (by decide +kernel) (by rw [xswap, if_pos zc11, sw_in (by decide) hj]; exact ⟨rfl, rfl⟩)
      | 2, hj =>
        refine g_tabI (dflt := 64) (lo := 0) (hi := 3) (offs := #[32, 34, 37, 50]) (len := 32) (off := 37) (tgt := 81) (by decide +kernel) (by decide) (by decide) rfl (by decide) ?_
        refine g_blk (pc' := 90) (loc' := [some (vR (7, 0, 0)), some (vI s), some (vI (nI 2)), some (vI (cl (habs σ 0) 3 s (0 : Int32))), some (vI (cl (habs σ 0) 3 s (1 : Int32)))]) (st' := [vI (1 : Int32), vI (cl (habs σ 0) 3 s (0 : Int32)), vR (0, 2, 0)]) (σ' := σ) fl4_ok [(81, .aload_n 0), (82, .getfield 10), (85, .getfield 98), (88, .iload_n 3), (89, .iconst 1)] (by decide +kernel) rfl rfl ?_
        refine g_callVp (0, 2, 0) [vI (cl (habs σ 0) 3 s (0 : Int32)), vI (1 : Int32)] [] vl_RX4_107 mi_X3_cell (ct_cell l x0 2 (by decide) (cl (habs σ 0) 3 s (0 : Int32)) (1 : Int32)) rfl rfl rfl rfl ⟨Nat.le_of_ble_eq_true rfl, Nat.le_of_ble_eq_true rfl⟩ rfl (Nat.le_of_ble_eq_true rfl) (by decide +kernel) ?_
        exact g_iret (by decide +kernel) (by rw [xswap, if_pos zc11, sw_in (by decide) hj]; exact ⟨rfl, rfl⟩)
      | 3, hj =>
        refine g_tabI (dflt := 64) (lo := 0) (hi := 3) (offs := #[32, 34, 37, 50]) (len := 32) (off := 50) (tgt := 94) (by decide +kernel) (by decide) (by decide) rfl (by decide) ?_
        refine g_blk (pc' := 104) (loc' := [some (vR (7, 0, 0)), some (vI s), some (vI (nI 3)), some (vI (cl (habs σ 0) 3 s (0 : Int32))), some (vI (cl (habs σ 0) 3 s (1 : Int32)))]) (st' := [vI (1 : Int32), vI (cl (habs σ 0) 3 s (1 : Int32)), vR (0, 2, 0)]) (σ' := σ) fl4_ok [(94, .aload_n 0), (95, .getfield 10), (98, .getfield 98), (101, .iload 4), (103, .iconst 1)] (by decide +kernel) rfl rfl ?_
        refine g_callVp (0, 2, 0) [vI (cl (habs σ 0) 3 s (1 : Int32)), vI (1 : Int32)] [] vl_RX4_107 mi_X3_cell (ct_cell l x0 2 (by decide) (cl (habs σ 0) 3 s (1 : Int32)) (1 : Int32)) rfl rfl rfl rfl ⟨Nat.le_of_ble_eq_true rfl, Nat.le_of_ble_eq_true rfl⟩ rfl (Nat.le_of_ble_eq_true rfl) (by decide +kernel) ?_
        exact g_iret (by decide +kernel) (by rw [xswap, if_pos zc11, sw_in (by decide) hj]; exact ⟨rfl, rfl⟩)
      | j + 4, hj => exact absurd hj (by omega)
  · refine g_blk (pc' := 15) (loc' := [some (vR (7, 0, 0)), some (vI s), some (vI w), none, none]) (st' := [vI (-1 : Int32)]) (σ' := σ) fl4_ok [(14, .iconst (-1))] (by decide +kernel) rfl rfl ?_
    exact g_iret (by decide +kernel) (by rw [xswap, if_neg (not_not_intro zc11)]; exact ⟨rfl, rfl⟩)
set_option maxHeartbeats 2000000 in
theorem c_X4_count (l : Launch) {σ : Sg} (hX : XOK σ) (w : Int32)  : Con l 4 yX4_count cX4_count 2 (some .int) [vR (7, 0, 0), vI w] σ (pureP (xcount (habs σ 0) (hist σ) (pv σ) w) σ) := by
  refine con_of pn_X4_count (Nat.le_of_ble_eq_true rfl) (fun hPK hok => ?_)
  show G l (Rm 4) RX4 cX4_count 2 (some .int) _ 0 [some (vR (7, 0, 0)), some (vI w)] [] σ
  obtain ⟨x0, x1, x2, x3, x4, x5, x6⟩ := id hX
  refine g_blk (pc' := 1) (loc' := [some (vR (7, 0, 0)), some (vI w)]) (st' := [vI w]) (σ' := σ) fl4_ok [(0, .iload_n 1)] (by decide +kernel) rfl rfl ?_
  rcases pk_ix w (n := 17) (by decide) with zq | zq | ⟨j, hj, rfl⟩
  · refine g_tabO (dflt := 254) (lo := 0) (hi := 16) (offs := #[83, 91, 102, 113, 124, 132, 140, 148, 159, 170, 178, 186, 194, 202, 215, 228, 241]) (len := 83) (tgt := 255) (by decide +kernel) (Or.inl (tab_lo zq)) (by decide) ?_
    refine g_blk (pc' := 257) (loc' := [some (vR (7, 0, 0)), some (vI w)]) (st' := [vI (-2 : Int32)]) (σ' := σ) fl4_ok [(255, .bipush (-2))] (by decide +kernel) rfl rfl ?_
    exact g_iret (by decide +kernel) (by rw [xcount, sw_lo zq]; exact ⟨rfl, rfl⟩)
  · refine g_tabO (dflt := 254) (lo := 0) (hi := 16) (offs := #[83, 91, 102, 113, 124, 132, 140, 148, 159, 170, 178, 186, 194, 202, 215, 228, 241]) (len := 83) (tgt := 255) (by decide +kernel) (Or.inr (tab_hi 16 (by decide) zq)) (by decide) ?_
    refine g_blk (pc' := 257) (loc' := [some (vR (7, 0, 0)), some (vI w)]) (st' := [vI (-2 : Int32)]) (σ' := σ) fl4_ok [(255, .bipush (-2))] (by decide +kernel) rfl rfl ?_
    exact g_iret (by decide +kernel) (by rw [xcount, sw_hi zq]; exact ⟨rfl, rfl⟩)
  · match j, hj with
    | 0, hj =>
      refine g_tabI (dflt := 254) (lo := 0) (hi := 16) (offs := #[83, 91, 102, 113, 124, 132, 140, 148, 159, 170, 178, 186, 194, 202, 215, 228, 241]) (len := 83) (off := 83) (tgt := 84) (by decide +kernel) (by decide) (by decide) rfl (by decide) ?_
      refine g_blk (pc' := 91) (loc' := [some (vR (7, 0, 0)), some (vI (nI 0))]) (st' := [vI ((habs σ 0).2 5)]) (σ' := σ) fl4_ok [(84, .aload_n 0), (85, .getfield 10), (88, .getfield 114)] (by decide +kernel) rfl rfl ?_
      exact g_iret (by decide +kernel) (by rw [xcount, sw_in (by decide) hj]; exact ⟨rfl, rfl⟩)
    | 1, hj =>
      refine g_tabI (dflt := 254) (lo := 0) (hi := 16) (offs := #[83, 91, 102, 113, 124, 132, 140, 148, 159, 170, 178, 186, 194, 202, 215, 228, 241]) (len := 83) (off := 91) (tgt := 92) (by decide +kernel) (by decide) (by decide) rfl (by decide) ?_
      refine g_blk (pc' := 99) (loc' := [some (vR (7, 0, 0)), some (vI (nI 1))]) (st' := [vR (0, 0, 0)]) (σ' := σ) fl4_ok [(92, .aload_n 0), (93, .getfield 10), (96, .getfield 37)] (by decide +kernel) rfl rfl ?_
      refine g_callVp (0, 0, 0) [] [] vl_RX4_157 mi_X3_size (ct_size l x0 0 (by decide)) rfl rfl rfl rfl ⟨Nat.le_of_ble_eq_true rfl, Nat.le_of_ble_eq_true rfl⟩ rfl (Nat.le_of_ble_eq_true rfl) (by decide +kernel) ?_
      exact g_iret (by decide +kernel) (by rw [xcount, sw_in (by decide) hj]; exact ⟨rfl, rfl⟩)
    | 2, hj =>
      refine g_tabI (dflt := 254) (lo := 0) (hi := 16) (offs := #[83, 91, 102, 113, 124, 132, 140, 148, 159, 170, 178, 186, 194, 202, 215, 228, 241]) (len := 83) (off := 102) (tgt := 103) (by decide +kernel) (by decide) (by decide) rfl (by decide) ?_
      refine g_blk (pc' := 110) (loc' := [some (vR (7, 0, 0)), some (vI (nI 2))]) (st' := [vR (0, 1, 0)]) (σ' := σ) fl4_ok [(103, .aload_n 0), (104, .getfield 10), (107, .getfield 77)] (by decide +kernel) rfl rfl ?_
      refine g_callVp (0, 1, 0) [] [] vl_RX4_157 mi_X3_size (ct_size l x0 1 (by decide)) rfl rfl rfl rfl ⟨Nat.le_of_ble_eq_true rfl, Nat.le_of_ble_eq_true rfl⟩ rfl (Nat.le_of_ble_eq_true rfl) (by decide +kernel) ?_
      exact g_iret (by decide +kernel) (by rw [xcount, sw_in (by decide) hj]; exact ⟨rfl, rfl⟩)
    | 3, hj =>
      refine g_tabI (dflt := 254) (lo := 0) (hi := 16) (offs := #[83, 91, 102, 113, 124, 132, 140, 148, 159, 170, 178, 186, 194, 202, 215, 228, 241]) (len := 83) (off := 113) (tgt := 114) (by decide +kernel) (by decide) (by decide) rfl (by decide) ?_
      refine g_blk (pc' := 121) (loc' := [some (vR (7, 0, 0)), some (vI (nI 3))]) (st' := [vR (0, 2, 0)]) (σ' := σ) fl4_ok [(114, .aload_n 0), (115, .getfield 10), (118, .getfield 98)] (by decide +kernel) rfl rfl ?_
      refine g_callVp (0, 2, 0) [] [] vl_RX4_157 mi_X3_size (ct_size l x0 2 (by decide)) rfl rfl rfl rfl ⟨Nat.le_of_ble_eq_true rfl, Nat.le_of_ble_eq_true rfl⟩ rfl (Nat.le_of_ble_eq_true rfl) (by decide +kernel) ?_
      exact g_iret (by decide +kernel) (by rw [xcount, sw_in (by decide) hj]; exact ⟨rfl, rfl⟩)
    | 4, hj =>
      refine g_tabI (dflt := 254) (lo := 0) (hi := 16) (offs := #[83, 91, 102, 113, 124, 132, 140, 148, 159, 170, 178, 186, 194, 202, 215, 228, 241]) (len := 83) (off := 124) (tgt := 125) (by decide +kernel) (by decide) (by decide) rfl (by decide) ?_
      refine g_blk (pc' := 129) (loc' := [some (vR (7, 0, 0)), some (vI (nI 4))]) (st' := [vR (2, 0, 0)]) (σ' := σ) fl4_ok [(125, .aload_n 0), (126, .getfield 10)] (by decide +kernel) rfl rfl ?_
      refine g_callVp (2, 0, 0) [] [] vl_RX4_160 mi_X1_countOpenTasks (c_X1_countOpenTasks l x0) rfl rfl rfl rfl ⟨Nat.le_of_ble_eq_true rfl, Nat.le_of_ble_eq_true rfl⟩ rfl (Nat.le_of_ble_eq_true rfl) (by decide +kernel) ?_
      exact g_iret (by decide +kernel) (by rw [xcount, sw_in (by decide) hj]; exact ⟨rfl, rfl⟩)
    | 5, hj =>
      refine g_tabI (dflt := 254) (lo := 0) (hi := 16) (offs := #[83, 91, 102, 113, 124, 132, 140, 148, 159, 170, 178, 186, 194, 202, 215, 228, 241]) (len := 83) (off := 132) (tgt := 133) (by decide +kernel) (by decide) (by decide) rfl (by decide) ?_
      refine g_blk (pc' := 140) (loc' := [some (vR (7, 0, 0)), some (vI (nI 5))]) (st' := [vI ((habs σ 0).2 7)]) (σ' := σ) fl4_ok [(133, .aload_n 0), (134, .getfield 10), (137, .getfield 163)] (by decide +kernel) rfl rfl ?_
      exact g_iret (by decide +kernel) (by rw [xcount, sw_in (by decide) hj]; exact ⟨rfl, rfl⟩)
    | 6, hj =>
      refine g_tabI (dflt := 254) (lo := 0) (hi := 16) (offs := #[83, 91, 102, 113, 124, 132, 140, 148, 159, 170, 178, 186, 194, 202, 215, 228, 241]) (len := 83) (off := 140) (tgt := 141) (by decide +kernel) (by decide) (by decide) rfl (by decide) ?_
      refine g_blk (pc' := 148) (loc' := [some (vR (7, 0, 0)), some (vI (nI 6))]) (st' := [vI ((habs σ 0).2 8)]) (σ' := σ) fl4_ok [(141, .aload_n 0), (142, .getfield 10), (145, .getfield 166)] (by decide +kernel) rfl rfl ?_
      exact g_iret (by decide +kernel) (by rw [xcount, sw_in (by decide) hj]; exact ⟨rfl, rfl⟩)
    | 7, hj =>
      refine g_tabI (dflt := 254) (lo := 0) (hi := 16) (offs := #[83, 91, 102, 113, 124, 132, 140, 148, 159, 170, 178, 186, 194, 202, 215, 228, 241]) (len := 83) (off := 148) (tgt := 149) (by decide +kernel) (by decide) (by decide) rfl (by decide) ?_
      refine g_blk (pc' := 156) (loc' := [some (vR (7, 0, 0)), some (vI (nI 7))]) (st' := [vR (0, 3, 0)]) (σ' := σ) fl4_ok [(149, .aload_n 0), (150, .getfield 10), (153, .getfield 127)] (by decide +kernel) rfl rfl ?_
      refine g_callVp (0, 3, 0) [] [] vl_RX4_157 mi_X3_size (ct_size l x0 3 (by decide)) rfl rfl rfl rfl ⟨Nat.le_of_ble_eq_true rfl, Nat.le_of_ble_eq_true rfl⟩ rfl (Nat.le_of_ble_eq_true rfl) (by decide +kernel) ?_
      exact g_iret (by decide +kernel) (by rw [xcount, sw_in (by decide) hj]; exact ⟨rfl, rfl⟩)
    | 8, hj =>
      refine g_tabI (dflt := 254) (lo := 0) (hi := 16) (offs := #[83, 91, 102, 113, 124, 132, 140, 148, 159, 170, 178, 186, 194, 202, 215, 228, 241]) (len := 83) (off := 159) (tgt := 160) (by decide +kernel) (by decide) (by decide) rfl (by decide) ?_
      refine g_blk (pc' := 167) (loc' := [some (vR (7, 0, 0)), some (vI (nI 8))]) (st' := [vI ((habs σ 0).2 6)]) (σ' := σ) fl4_ok [(160, .aload_n 0), (161, .getfield 10), (164, .getfield 90)] (by decide +kernel) rfl rfl ?_
      refine g_callSp [vI ((habs σ 0).2 6)] [] sl_RX4_73 mi_X4_bit (c_X4_bit l ((habs σ 0).2 6)) rfl ⟨Nat.le_of_ble_eq_true rfl, Nat.le_of_ble_eq_true rfl⟩ rfl (Nat.le_of_ble_eq_true rfl) (by decide +kernel) ?_
      exact g_iret (by decide +kernel) (by rw [xcount, sw_in (by decide) hj]; exact ⟨rfl, rfl⟩)
    | 9, hj =>
      refine g_tabI (dflt := 254) (lo := 0) (hi := 16) (offs := #[83, 91, 102, 113, 124, 132, 140, 148, 159, 170, 178, 186, 194, 202, 215, 228, 241]) (len := 83) (off := 170) (tgt := 171) (by decide +kernel) (by decide) (by decide) rfl (by decide) ?_
      refine g_blk (pc' := 175) (loc' := [some (vR (7, 0, 0)), some (vI (nI 9))]) (st' := [vR (2, 0, 0)]) (σ' := σ) fl4_ok [(171, .aload_n 0), (172, .getfield 10)] (by decide +kernel) rfl rfl ?_
      refine g_callVp (2, 0, 0) [] [] vl_RX4_169 mi_X1_spread (c_X1_spread l x0) rfl rfl rfl rfl ⟨Nat.le_of_ble_eq_true rfl, Nat.le_of_ble_eq_true rfl⟩ rfl (Nat.le_of_ble_eq_true rfl) (by decide +kernel) ?_
      exact g_iret (by decide +kernel) (by rw [xcount, sw_in (by decide) hj]; exact ⟨rfl, rfl⟩)
    | 10, hj =>
      refine g_tabI (dflt := 254) (lo := 0) (hi := 16) (offs := #[83, 91, 102, 113, 124, 132, 140, 148, 159, 170, 178, 186, 194, 202, 215, 228, 241]) (len := 83) (off := 178) (tgt := 179) (by decide +kernel) (by decide) (by decide) rfl (by decide) ?_
      refine g_blk (pc' := 183) (loc' := [some (vR (7, 0, 0)), some (vI (nI 10))]) (st' := [vR (2, 0, 0)]) (σ' := σ) fl4_ok [(179, .aload_n 0), (180, .getfield 10)] (by decide +kernel) rfl rfl ?_
      refine g_callVp (2, 0, 0) [] [] vl_RX4_172 mi_X1_plannedSpread (c_X1_plannedSpread l x0) rfl rfl rfl rfl ⟨Nat.le_of_ble_eq_true rfl, Nat.le_of_ble_eq_true rfl⟩ rfl (Nat.le_of_ble_eq_true rfl) (by decide +kernel) ?_
      exact g_iret (by decide +kernel) (by rw [xcount, sw_in (by decide) hj]; exact ⟨rfl, rfl⟩)
    | 11, hj =>
      refine g_tabI (dflt := 254) (lo := 0) (hi := 16) (offs := #[83, 91, 102, 113, 124, 132, 140, 148, 159, 170, 178, 186, 194, 202, 215, 228, 241]) (len := 83) (off := 186) (tgt := 187) (by decide +kernel) (by decide) (by decide) rfl (by decide) ?_
      refine g_blk (pc' := 194) (loc' := [some (vR (7, 0, 0)), some (vI (nI 11))]) (st' := [vI (σ.1 (5, 0, 0) 1)]) (σ' := σ) fl4_ok [(187, .aload_n 0), (188, .getfield 29), (191, .getfield 175)] (by decide +kernel) rfl rfl ?_
      exact g_iret (by decide +kernel) (by rw [xcount, sw_in (by decide) hj]; rw [x3.2]; exact ⟨rfl, rfl⟩)
    | 12, hj =>
      refine g_tabI (dflt := 254) (lo := 0) (hi := 16) (offs := #[83, 91, 102, 113, 124, 132, 140, 148, 159, 170, 178, 186, 194, 202, 215, 228, 241]) (len := 83) (off := 194) (tgt := 195) (by decide +kernel) (by decide) (by decide) rfl (by decide) ?_
      refine g_blk (pc' := 202) (loc' := [some (vR (7, 0, 0)), some (vI (nI 12))]) (st' := [vI (σ.1 (3, 0, 0) 1)]) (σ' := σ) fl4_ok [(195, .aload_n 0), (196, .getfield 22), (199, .getfield 178)] (by decide +kernel) rfl rfl ?_
      exact g_iret (by decide +kernel) (by rw [xcount, sw_in (by decide) hj, x2.2.1, show (hist σ).length = hN σ from by rw [hist, List.length_map, List.length_range]]; exact ⟨rfl, rfl⟩)
    | 13, hj =>
      refine g_tabI (dflt := 254) (lo := 0) (hi := 16) (offs := #[83, 91, 102, 113, 124, 132, 140, 148, 159, 170, 178, 186, 194, 202, 215, 228, 241]) (len := 83) (off := 202) (tgt := 203) (by decide +kernel) (by decide) (by decide) rfl (by decide) ?_
      refine g_blk (pc' := 212) (loc' := [some (vR (7, 0, 0)), some (vI (nI 13))]) (st' := [vI (0 : Int32), vI (0 : Int32), vR (0, 4, 0)]) (σ' := σ) fl4_ok [(203, .aload_n 0), (204, .getfield 10), (207, .getfield 87), (210, .iconst 0), (211, .iconst 0)] (by decide +kernel) rfl rfl ?_
      refine g_callVp (0, 4, 0) [vI (0 : Int32), vI (0 : Int32)] [] vl_RX4_107 mi_X3_cell (ct_cell l x0 4 (by decide) (0 : Int32) (0 : Int32)) rfl rfl rfl rfl ⟨Nat.le_of_ble_eq_true rfl, Nat.le_of_ble_eq_true rfl⟩ rfl (Nat.le_of_ble_eq_true rfl) (by decide +kernel) ?_
      exact g_iret (by decide +kernel) (by rw [xcount, sw_in (by decide) hj]; exact ⟨rfl, rfl⟩)
    | 14, hj =>
      refine g_tabI (dflt := 254) (lo := 0) (hi := 16) (offs := #[83, 91, 102, 113, 124, 132, 140, 148, 159, 170, 178, 186, 194, 202, 215, 228, 241]) (len := 83) (off := 215) (tgt := 216) (by decide +kernel) (by decide) (by decide) rfl (by decide) ?_
      refine g_blk (pc' := 225) (loc' := [some (vR (7, 0, 0)), some (vI (nI 14))]) (st' := [vI (1 : Int32), vI (0 : Int32), vR (0, 4, 0)]) (σ' := σ) fl4_ok [(216, .aload_n 0), (217, .getfield 10), (220, .getfield 87), (223, .iconst 0), (224, .iconst 1)] (by decide +kernel) rfl rfl ?_
      refine g_callVp (0, 4, 0) [vI (0 : Int32), vI (1 : Int32)] [] vl_RX4_107 mi_X3_cell (ct_cell l x0 4 (by decide) (0 : Int32) (1 : Int32)) rfl rfl rfl rfl ⟨Nat.le_of_ble_eq_true rfl, Nat.le_of_ble_eq_true rfl⟩ rfl (Nat.le_of_ble_eq_true rfl) (by decide +kernel) ?_
      exact g_iret (by decide +kernel) (by rw [xcount, sw_in (by decide) hj]; exact ⟨rfl, rfl⟩)
    | 15, hj =>
      refine g_tabI (dflt := 254) (lo := 0) (hi := 16) (offs := #[83, 91, 102, 113, 124, 132, 140, 148, 159, 170, 178, 186, 194, 202, 215, 228, 241]) (len := 83) (off := 228) (tgt := 229) (by decide +kernel) (by decide) (by decide) rfl (by decide) ?_
      refine g_blk (pc' := 238) (loc' := [some (vR (7, 0, 0)), some (vI (nI 15))]) (st' := [vI (2 : Int32), vI (0 : Int32), vR (0, 4, 0)]) (σ' := σ) fl4_ok [(229, .aload_n 0), (230, .getfield 10), (233, .getfield 87), (236, .iconst 0), (237, .iconst 2)] (by decide +kernel) rfl rfl ?_
      refine g_callVp (0, 4, 0) [vI (0 : Int32), vI (2 : Int32)] [] vl_RX4_107 mi_X3_cell (ct_cell l x0 4 (by decide) (0 : Int32) (2 : Int32)) rfl rfl rfl rfl ⟨Nat.le_of_ble_eq_true rfl, Nat.le_of_ble_eq_true rfl⟩ rfl (Nat.le_of_ble_eq_true rfl) (by decide +kernel) ?_
      exact g_iret (by decide +kernel) (by rw [xcount, sw_in (by decide) hj]; exact ⟨rfl, rfl⟩)
    | 16, hj =>
      refine g_tabI (dflt := 254) (lo := 0) (hi := 16) (offs := #[83, 91, 102, 113, 124, 132, 140, 148, 159, 170, 178, 186, 194, 202, 215, 228, 241]) (len := 83) (off := 241) (tgt := 242) (by decide +kernel) (by decide) (by decide) rfl (by decide) ?_
      refine g_blk (pc' := 251) (loc' := [some (vR (7, 0, 0)), some (vI (nI 16))]) (st' := [vI (3 : Int32), vI (0 : Int32), vR (0, 4, 0)]) (σ' := σ) fl4_ok [(242, .aload_n 0), (243, .getfield 10), (246, .getfield 87), (249, .iconst 0), (250, .iconst 3)] (by decide +kernel) rfl rfl ?_
      refine g_callVp (0, 4, 0) [vI (0 : Int32), vI (3 : Int32)] [] vl_RX4_107 mi_X3_cell (ct_cell l x0 4 (by decide) (0 : Int32) (3 : Int32)) rfl rfl rfl rfl ⟨Nat.le_of_ble_eq_true rfl, Nat.le_of_ble_eq_true rfl⟩ rfl (Nat.le_of_ble_eq_true rfl) (by decide +kernel) ?_
      exact g_iret (by decide +kernel) (by rw [xcount, sw_in (by decide) hj]; exact ⟨rfl, rfl⟩)
    | j + 17, hj => exact absurd hj (by omega)
