/-! HOUSE: readers (laid by wip/whole/mk11.py) -/
theorem isInS_bit (x a b : Int32) : isInS x a b = 0 ∨ isInS x a b = 1 := by
  rw [isInS]
  split
  · exact Or.inl rfl
  · split
    · exact Or.inl rfl
    · exact Or.inr rfl
theorem openS_bit (S : HA) (t : Int32) : openS S t = 0 ∨ openS S t = 1 := by
  rw [openS]
  split
  · exact Or.inl rfl
  · split
    · exact Or.inl rfl
    · exact Or.inr rfl
set_option maxHeartbeats 2000000 in
theorem c_X4_isIn (l : Launch) {σ : Sg}  (x a b : Int32) : Con l 0 yX4_isIn cX4_isIn 3 (some .boolean) [vI x, vI a, vI b] σ (pureP (isInS x a b) σ) := by
  refine con_of pn_X4_isIn (Nat.le_of_ble_eq_true rfl) (fun hPK hok => ?_)
  show G l (Rm 0) RX4 cX4_isIn 3 (some .boolean) _ 0 [some (vI x), some (vI a), some (vI b)] [] σ
  refine g_blk (pc' := 2) (loc' := [some (vI x), some (vI a), some (vI b)]) (st' := [vI a, vI x]) (σ' := σ) fl4_ok [(0, .iload_n 0), (1, .iload_n 1)] (by decide +kernel) rfl rfl ?_
  refine g_icmp_lt (off := 12) (tgt := 14) (by decide +kernel) (by decide) (fun zc2 => ?_) (fun zc2 => ?_)
  · refine g_blk (pc' := 15) (loc' := [some (vI x), some (vI a), some (vI b)]) (st' := [vI (0 : Int32)]) (σ' := σ) fl4_ok [(14, .iconst 0)] (by decide +kernel) rfl rfl ?_
    exact g_zret (by decide +kernel) (Or.inl rfl) (by rw [isInS, if_pos zc2]; exact ⟨rfl, rfl⟩)
  · refine g_blk (pc' := 7) (loc' := [some (vI x), some (vI a), some (vI b)]) (st' := [vI b, vI x]) (σ' := σ) fl4_ok [(5, .iload_n 0), (6, .iload_n 2)] (by decide +kernel) rfl rfl ?_
    refine g_icmp_gt (off := 7) (tgt := 14) (by decide +kernel) (by decide) (fun zc7 => ?_) (fun zc7 => ?_)
    · refine g_blk (pc' := 15) (loc' := [some (vI x), some (vI a), some (vI b)]) (st' := [vI (0 : Int32)]) (σ' := σ) fl4_ok [(14, .iconst 0)] (by decide +kernel) rfl rfl ?_
      exact g_zret (by decide +kernel) (Or.inl rfl) (by rw [isInS, if_neg zc2, if_pos zc7]; exact ⟨rfl, rfl⟩)
    · refine g_blk (pc' := 15) (loc' := [some (vI x), some (vI a), some (vI b)]) (st' := [vI (1 : Int32)]) (σ' := σ) fl4_ok [(10, .iconst 1), (11, .goto 4)] (by decide +kernel) rfl rfl ?_
      exact g_zret (by decide +kernel) (Or.inr rfl) (by rw [isInS, if_neg zc2, if_neg zc7]; exact ⟨rfl, rfl⟩)
set_option maxHeartbeats 2000000 in
theorem c_X4_bit (l : Launch) {σ : Sg}  (x : Int32) : Con l 0 yX4_bit cX4_bit 1 (some .int) [vI x] σ (pureP (bitS x) σ) := by
  refine con_of pn_X4_bit (Nat.le_of_ble_eq_true rfl) (fun hPK hok => ?_)
  show G l (Rm 0) RX4 cX4_bit 1 (some .int) _ 0 [some (vI x)] [] σ
  refine g_blk (pc' := 1) (loc' := [some (vI x)]) (st' := [vI x]) (σ' := σ) fl4_ok [(0, .iload_n 0)] (by decide +kernel) rfl rfl ?_
  refine g_if_eq (off := 7) (tgt := 8) (by decide +kernel) (by decide) (fun zc1 => ?_) (fun zc1 => ?_)
  · refine g_blk (pc' := 9) (loc' := [some (vI x)]) (st' := [vI (0 : Int32)]) (σ' := σ) fl4_ok [(8, .iconst 0)] (by decide +kernel) rfl rfl ?_
    exact g_iret (by decide +kernel) (by rw [bitS, if_pos zc1]; exact ⟨rfl, rfl⟩)
  · refine g_blk (pc' := 9) (loc' := [some (vI x)]) (st' := [vI (1 : Int32)]) (σ' := σ) fl4_ok [(4, .iconst 1), (5, .goto 4)] (by decide +kernel) rfl rfl ?_
    exact g_iret (by decide +kernel) (by rw [bitS, if_neg zc1]; exact ⟨rfl, rfl⟩)
set_option maxHeartbeats 2000000 in
theorem c_X1_isAway (l : Launch) {σ : Sg} {h : Nat} (hH : HOK σ h) (r : Int32) : Con l 1 yX1_isAway cX1_isAway 2 (some .boolean) [vR (2, 0, h), vI r] σ (pureP (awayS (habs σ h) r) σ) := by
  refine con_of pn_X1_isAway (Nat.le_of_ble_eq_true rfl) (fun hPK hok => ?_)
  show G l (Rm 1) RX1 cX1_isAway 2 (some .boolean) _ 0 [some (vR (2, 0, h)), some (vI r)] [] σ
  refine g_blk (pc' := 10) (loc' := [some (vR (2, 0, h)), some (vI r)]) (st' := [vI (1 : Int32), vI r, vR (0, 0, h), vI ((habs σ h).2 5)]) (σ' := σ) fl1_ok [(0, .aload_n 0), (1, .getfield 44), (4, .aload_n 0), (5, .getfield 16), (8, .iload_n 1), (9, .iconst 1)] (by decide +kernel) rfl rfl ?_
  refine g_callVp (0, 0, h) [vI r, vI (1 : Int32)] [vI ((habs σ h).2 5)] vl_RX1_58 mi_X3_cell (ct_cell l hH 0 (by decide) r (1 : Int32)) rfl rfl rfl rfl ⟨Nat.le_of_ble_eq_true rfl, Nat.le_of_ble_eq_true rfl⟩ rfl (Nat.le_of_ble_eq_true rfl) (by decide +kernel) ?_
  refine g_blk (pc' := 19) (loc' := [some (vR (2, 0, h)), some (vI r)]) (st' := [vI (2 : Int32), vI r, vR (0, 0, h), vI (cl (habs σ h) 0 r (1 : Int32)), vI ((habs σ h).2 5)]) (σ' := σ) fl1_ok [(13, .aload_n 0), (14, .getfield 16), (17, .iload_n 1), (18, .iconst 2)] (by decide +kernel) rfl rfl ?_
  refine g_callVp (0, 0, h) [vI r, vI (2 : Int32)] [vI (cl (habs σ h) 0 r (1 : Int32)), vI ((habs σ h).2 5)] vl_RX1_58 mi_X3_cell (ct_cell l hH 0 (by decide) r (2 : Int32)) rfl rfl rfl rfl ⟨Nat.le_of_ble_eq_true rfl, Nat.le_of_ble_eq_true rfl⟩ rfl (Nat.le_of_ble_eq_true rfl) (by decide +kernel) ?_
  refine g_callNp (idx := 62) [vI ((habs σ h).2 5), vI (cl (habs σ h) 0 r (1 : Int32)), vI (cl (habs σ h) 0 r (2 : Int32))] [] (by decide +kernel) nl_X4_isIn mi_X4_isIn (c_X4_isIn l ((habs σ h).2 5) (cl (habs σ h) 0 r (1 : Int32)) (cl (habs σ h) 0 r (2 : Int32))) rfl ⟨Nat.le_of_ble_eq_true rfl, Nat.le_of_ble_eq_true rfl⟩ rfl (Nat.le_of_ble_eq_true rfl) (by decide +kernel) ?_
  exact g_zret (by decide +kernel) (isInS_bit _ _ _) ⟨rfl, rfl⟩
set_option maxHeartbeats 2000000 in
theorem c_X1_loadOf (l : Launch) {σ : Sg} {h : Nat} (hH : HOK σ h) (r : Int32) : Con l 1 yX1_loadOf cX1_loadOf 2 (some .int) [vR (2, 0, h), vI r] σ (pureP (loadS (habs σ h) r) σ) := by
  refine con_of pn_X1_loadOf (Nat.le_of_ble_eq_true rfl) (fun hPK hok => ?_)
  show G l (Rm 1) RX1 cX1_loadOf 2 (some .int) _ 0 [some (vR (2, 0, h)), some (vI r)] [] σ
  refine g_blk (pc' := 6) (loc' := [some (vR (2, 0, h)), some (vI r)]) (st' := [vI (3 : Int32), vI r, vR (0, 0, h)]) (σ' := σ) fl1_ok [(0, .aload_n 0), (1, .getfield 16), (4, .iload_n 1), (5, .iconst 3)] (by decide +kernel) rfl rfl ?_
  refine g_callVp (0, 0, h) [vI r, vI (3 : Int32)] [] vl_RX1_58 mi_X3_cell (ct_cell l hH 0 (by decide) r (3 : Int32)) rfl rfl rfl rfl ⟨Nat.le_of_ble_eq_true rfl, Nat.le_of_ble_eq_true rfl⟩ rfl (Nat.le_of_ble_eq_true rfl) (by decide +kernel) ?_
  refine g_blk (pc' := 16) (loc' := [some (vR (2, 0, h)), some (vI r)]) (st' := [vI (6 : Int32), vI r, vR (0, 0, h), vI (cl (habs σ h) 0 r (3 : Int32))]) (σ' := σ) fl1_ok [(9, .aload_n 0), (10, .getfield 16), (13, .iload_n 1), (14, .bipush 6)] (by decide +kernel) rfl rfl ?_
  refine g_callVp (0, 0, h) [vI r, vI (6 : Int32)] [vI (cl (habs σ h) 0 r (3 : Int32))] vl_RX1_58 mi_X3_cell (ct_cell l hH 0 (by decide) r (6 : Int32)) rfl rfl rfl rfl ⟨Nat.le_of_ble_eq_true rfl, Nat.le_of_ble_eq_true rfl⟩ rfl (Nat.le_of_ble_eq_true rfl) (by decide +kernel) ?_
  refine g_blk (pc' := 20) (loc' := [some (vR (2, 0, h)), some (vI r)]) (st' := [vI ((cl (habs σ h) 0 r (3 : Int32)) + (cl (habs σ h) 0 r (6 : Int32)))]) (σ' := σ) fl1_ok [(19, .iadd)] (by decide +kernel) rfl rfl ?_
  exact g_iret (by decide +kernel) (by exact ⟨rfl, rfl⟩)
set_option maxHeartbeats 2000000 in
theorem c_X1_needsDeepClean (l : Launch) {σ : Sg} {h : Nat} (hH : HOK σ h) (a : Int32) : Con l 1 yX1_needsDeepClean cX1_needsDeepClean 2 (some .boolean) [vR (2, 0, h), vI a] σ (pureP (deepS (habs σ h) a) σ) := by
  refine con_of pn_X1_needsDeepClean (Nat.le_of_ble_eq_true rfl) (fun hPK hok => ?_)
  show G l (Rm 1) RX1 cX1_needsDeepClean 2 (some .boolean) _ 0 [some (vR (2, 0, h)), some (vI a)] [] σ
  refine g_blk (pc' := 6) (loc' := [some (vR (2, 0, h)), some (vI a)]) (st' := [vI (3 : Int32), vI a, vR (0, 1, h)]) (σ' := σ) fl1_ok [(0, .aload_n 0), (1, .getfield 20), (4, .iload_n 1), (5, .iconst 3)] (by decide +kernel) rfl rfl ?_
  refine g_callVp (0, 1, h) [vI a, vI (3 : Int32)] [] vl_RX1_58 mi_X3_cell (ct_cell l hH 1 (by decide) a (3 : Int32)) rfl rfl rfl rfl ⟨Nat.le_of_ble_eq_true rfl, Nat.le_of_ble_eq_true rfl⟩ rfl (Nat.le_of_ble_eq_true rfl) (by decide +kernel) ?_
  refine g_blk (pc' := 15) (loc' := [some (vR (2, 0, h)), some (vI a)]) (st' := [vI (3 : Int32), vI (0 : Int32), vR (0, 4, h), vI (cl (habs σ h) 1 a (3 : Int32))]) (σ' := σ) fl1_ok [(9, .aload_n 0), (10, .getfield 29), (13, .iconst 0), (14, .iconst 3)] (by decide +kernel) rfl rfl ?_
  refine g_callVp (0, 4, h) [vI (0 : Int32), vI (3 : Int32)] [vI (cl (habs σ h) 1 a (3 : Int32))] vl_RX1_58 mi_X3_cell (ct_cell l hH 4 (by decide) (0 : Int32) (3 : Int32)) rfl rfl rfl rfl ⟨Nat.le_of_ble_eq_true rfl, Nat.le_of_ble_eq_true rfl⟩ rfl (Nat.le_of_ble_eq_true rfl) (by decide +kernel) ?_
  refine g_icmp_lt (off := 7) (tgt := 25) (by decide +kernel) (by decide) (fun zc18 => ?_) (fun zc18 => ?_)
  · refine g_blk (pc' := 26) (loc' := [some (vR (2, 0, h)), some (vI a)]) (st' := [vI (0 : Int32)]) (σ' := σ) fl1_ok [(25, .iconst 0)] (by decide +kernel) rfl rfl ?_
    exact g_zret (by decide +kernel) (Or.inl rfl) (by rw [deepS, if_pos zc18]; exact ⟨rfl, rfl⟩)
  · refine g_blk (pc' := 26) (loc' := [some (vR (2, 0, h)), some (vI a)]) (st' := [vI (1 : Int32)]) (σ' := σ) fl1_ok [(21, .iconst 1), (22, .goto 4)] (by decide +kernel) rfl rfl ?_
    exact g_zret (by decide +kernel) (Or.inr rfl) (by rw [deepS, if_neg zc18]; exact ⟨rfl, rfl⟩)
set_option maxHeartbeats 2000000 in
theorem c_X1_isDue (l : Launch) {σ : Sg} {h : Nat} (hH : HOK σ h) (a : Int32) : Con l 1 yX1_isDue cX1_isDue 3 (some .boolean) [vR (2, 0, h), vI a] σ (pureP (dueS (habs σ h) a) σ) := by
  refine con_of pn_X1_isDue (Nat.le_of_ble_eq_true rfl) (fun hPK hok => ?_)
  show G l (Rm 1) RX1 cX1_isDue 3 (some .boolean) _ 0 [some (vR (2, 0, h)), some (vI a), none] [] σ
  refine g_blk (pc' := 6) (loc' := [some (vR (2, 0, h)), some (vI a), none]) (st' := [vI (1 : Int32), vI a, vR (0, 1, h)]) (σ' := σ) fl1_ok [(0, .aload_n 0), (1, .getfield 20), (4, .iload_n 1), (5, .iconst 1)] (by decide +kernel) rfl rfl ?_
  refine g_callVp (0, 1, h) [vI a, vI (1 : Int32)] [] vl_RX1_58 mi_X3_cell (ct_cell l hH 1 (by decide) a (1 : Int32)) rfl rfl rfl rfl ⟨Nat.le_of_ble_eq_true rfl, Nat.le_of_ble_eq_true rfl⟩ rfl (Nat.le_of_ble_eq_true rfl) (by decide +kernel) ?_
  refine g_blk (pc' := 11) (loc' := [some (vR (2, 0, h)), some (vI a), some (vI (cl (habs σ h) 1 a (1 : Int32)))]) (st' := [vI (cl (habs σ h) 1 a (1 : Int32))]) (σ' := σ) fl1_ok [(9, .istore_n 2), (10, .iload_n 2)] (by decide +kernel) rfl rfl ?_
  refine g_if_le (off := 19) (tgt := 30) (by decide +kernel) (by decide) (fun zc11 => ?_) (fun zc11 => ?_)
  · refine g_blk (pc' := 31) (loc' := [some (vR (2, 0, h)), some (vI a), some (vI (cl (habs σ h) 1 a (1 : Int32)))]) (st' := [vI (0 : Int32)]) (σ' := σ) fl1_ok [(30, .iconst 0)] (by decide +kernel) rfl rfl ?_
    exact g_zret (by decide +kernel) (Or.inl rfl) (by rw [dueS, if_pos zc11]; exact ⟨rfl, rfl⟩)
  · refine g_blk (pc' := 19) (loc' := [some (vR (2, 0, h)), some (vI a), some (vI (cl (habs σ h) 1 a (1 : Int32)))]) (st' := [vI (cl (habs σ h) 1 a (1 : Int32)), vI ((habs σ h).2 5)]) (σ' := σ) fl1_ok [(14, .aload_n 0), (15, .getfield 44), (18, .iload_n 2)] (by decide +kernel) rfl rfl ?_
    refine g_remS (hy := fun z => zc11 (by rw [z]; decide)) (hd := by decide +kernel) (k := ?_)
    refine g_blk (pc' := 22) (loc' := [some (vR (2, 0, h)), some (vI a), some (vI (cl (habs σ h) 1 a (1 : Int32)))]) (st' := [vI (cl (habs σ h) 1 a (1 : Int32)), vI a, vI (remS ((habs σ h).2 5) (cl (habs σ h) 1 a (1 : Int32)))]) (σ' := σ) fl1_ok [(20, .iload_n 1), (21, .iload_n 2)] (by decide +kernel) rfl rfl ?_
    refine g_remS (hy := fun z => zc11 (by rw [z]; decide)) (hd := by decide +kernel) (k := ?_)
    refine g_icmp_ne (off := 7) (tgt := 30) (by decide +kernel) (by decide) (fun zc23 => ?_) (fun zc23 => ?_)
    · refine g_blk (pc' := 31) (loc' := [some (vR (2, 0, h)), some (vI a), some (vI (cl (habs σ h) 1 a (1 : Int32)))]) (st' := [vI (0 : Int32)]) (σ' := σ) fl1_ok [(30, .iconst 0)] (by decide +kernel) rfl rfl ?_
      exact g_zret (by decide +kernel) (Or.inl rfl) (by rw [dueS, if_neg zc11, if_pos zc23]; exact ⟨rfl, rfl⟩)
    · refine g_blk (pc' := 31) (loc' := [some (vR (2, 0, h)), some (vI a), some (vI (cl (habs σ h) 1 a (1 : Int32)))]) (st' := [vI (1 : Int32)]) (σ' := σ) fl1_ok [(26, .iconst 1), (27, .goto 4)] (by decide +kernel) rfl rfl ?_
      exact g_zret (by decide +kernel) (Or.inr rfl) (by rw [dueS, if_neg zc11, if_neg (not_not_intro zc23)]; exact ⟨rfl, rfl⟩)
set_option maxHeartbeats 2000000 in
theorem c_X1_hasTwinAhead (l : Launch) {σ : Sg} {h : Nat} (hH : HOK σ h) (t : Int32) : Con l 1 yX1_hasTwinAhead cX1_hasTwinAhead 2 (some .boolean) [vR (2, 0, h), vI t] σ (pureP (twinS (habs σ h) t) σ) := by
  refine con_of pn_X1_hasTwinAhead (Nat.le_of_ble_eq_true rfl) (fun hPK hok => ?_)
  show G l (Rm 1) RX1 cX1_hasTwinAhead 2 (some .boolean) _ 0 [some (vR (2, 0, h)), some (vI t)] [] σ
  refine g_blk (pc' := 1) (loc' := [some (vR (2, 0, h)), some (vI t)]) (st' := [vI t]) (σ' := σ) fl1_ok [(0, .iload_n 1)] (by decide +kernel) rfl rfl ?_
  refine g_if_le (off := 30) (tgt := 31) (by decide +kernel) (by decide) (fun zc1 => ?_) (fun zc1 => ?_)
  · refine g_blk (pc' := 32) (loc' := [some (vR (2, 0, h)), some (vI t)]) (st' := [vI (0 : Int32)]) (σ' := σ) fl1_ok [(31, .iconst 0)] (by decide +kernel) rfl rfl ?_
    exact g_zret (by decide +kernel) (Or.inl rfl) (by rw [twinS, if_pos zc1]; exact ⟨rfl, rfl⟩)
  · refine g_blk (pc' := 12) (loc' := [some (vR (2, 0, h)), some (vI t)]) (st' := [vI (0 : Int32), vI (t - (1 : Int32)), vR (0, 2, h)]) (σ' := σ) fl1_ok [(4, .aload_n 0), (5, .getfield 23), (8, .iload_n 1), (9, .iconst 1), (10, .isub), (11, .iconst 0)] (by decide +kernel) rfl rfl ?_
    refine g_callVp (0, 2, h) [vI (t - (1 : Int32)), vI (0 : Int32)] [] vl_RX1_58 mi_X3_cell (ct_cell l hH 2 (by decide) (t - (1 : Int32)) (0 : Int32)) rfl rfl rfl rfl ⟨Nat.le_of_ble_eq_true rfl, Nat.le_of_ble_eq_true rfl⟩ rfl (Nat.le_of_ble_eq_true rfl) (by decide +kernel) ?_
    refine g_blk (pc' := 21) (loc' := [some (vR (2, 0, h)), some (vI t)]) (st' := [vI (0 : Int32), vI t, vR (0, 2, h), vI (cl (habs σ h) 2 (t - (1 : Int32)) (0 : Int32))]) (σ' := σ) fl1_ok [(15, .aload_n 0), (16, .getfield 23), (19, .iload_n 1), (20, .iconst 0)] (by decide +kernel) rfl rfl ?_
    refine g_callVp (0, 2, h) [vI t, vI (0 : Int32)] [vI (cl (habs σ h) 2 (t - (1 : Int32)) (0 : Int32))] vl_RX1_58 mi_X3_cell (ct_cell l hH 2 (by decide) t (0 : Int32)) rfl rfl rfl rfl ⟨Nat.le_of_ble_eq_true rfl, Nat.le_of_ble_eq_true rfl⟩ rfl (Nat.le_of_ble_eq_true rfl) (by decide +kernel) ?_
    refine g_icmp_ne (off := 7) (tgt := 31) (by decide +kernel) (by decide) (fun zc24 => ?_) (fun zc24 => ?_)
    · refine g_blk (pc' := 32) (loc' := [some (vR (2, 0, h)), some (vI t)]) (st' := [vI (0 : Int32)]) (σ' := σ) fl1_ok [(31, .iconst 0)] (by decide +kernel) rfl rfl ?_
      exact g_zret (by decide +kernel) (Or.inl rfl) (by rw [twinS, if_neg zc1, if_pos zc24]; exact ⟨rfl, rfl⟩)
    · refine g_blk (pc' := 32) (loc' := [some (vR (2, 0, h)), some (vI t)]) (st' := [vI (1 : Int32)]) (σ' := σ) fl1_ok [(27, .iconst 1), (28, .goto 4)] (by decide +kernel) rfl rfl ?_
      exact g_zret (by decide +kernel) (Or.inr rfl) (by rw [twinS, if_neg zc1, if_neg (not_not_intro zc24)]; exact ⟨rfl, rfl⟩)
set_option maxHeartbeats 2000000 in
theorem c_X1_goesAhead (l : Launch) {σ : Sg} {h : Nat} (hH : HOK σ h) (r o : Int32) : Con l 2 yX1_goesAhead cX1_goesAhead 5 (some .boolean) [vR (2, 0, h), vI r, vI o] σ (pureP (aheadS (habs σ h) r o) σ) := by
  refine con_of pn_X1_goesAhead (Nat.le_of_ble_eq_true rfl) (fun hPK hok => ?_)
  show G l (Rm 2) RX1 cX1_goesAhead 5 (some .boolean) _ 0 [some (vR (2, 0, h)), some (vI r), some (vI o), none, none] [] σ
  refine g_blk (pc' := 2) (loc' := [some (vR (2, 0, h)), some (vI r), some (vI o), none, none]) (st' := [vI r, vR (2, 0, h)]) (σ' := σ) fl1_ok [(0, .aload_n 0), (1, .iload_n 1)] (by decide +kernel) rfl rfl ?_
  refine g_callVp (2, 0, h) [vI r] [] vl_RX1_118 mi_X1_loadOf (c_X1_loadOf l hH r) rfl rfl rfl rfl ⟨Nat.le_of_ble_eq_true rfl, Nat.le_of_ble_eq_true rfl⟩ rfl (Nat.le_of_ble_eq_true rfl) (by decide +kernel) ?_
  refine g_blk (pc' := 11) (loc' := [some (vR (2, 0, h)), some (vI r), some (vI o), none, none]) (st' := [vI (0 : Int32), vI o, vR (0, 0, h), vI (loadS (habs σ h) r)]) (σ' := σ) fl1_ok [(5, .aload_n 0), (6, .getfield 16), (9, .iload_n 2), (10, .iconst 0)] (by decide +kernel) rfl rfl ?_
  refine g_callVp (0, 0, h) [vI o, vI (0 : Int32)] [vI (loadS (habs σ h) r)] vl_RX1_58 mi_X3_cell (ct_cell l hH 0 (by decide) o (0 : Int32)) rfl rfl rfl rfl ⟨Nat.le_of_ble_eq_true rfl, Nat.le_of_ble_eq_true rfl⟩ rfl (Nat.le_of_ble_eq_true rfl) (by decide +kernel) ?_
  refine g_blk (pc' := 18) (loc' := [some (vR (2, 0, h)), some (vI r), some (vI o), some (vI ((loadS (habs σ h) r) * (cl (habs σ h) 0 o (0 : Int32)))), none]) (st' := [vI o, vR (2, 0, h)]) (σ' := σ) fl1_ok [(14, .imul), (15, .istore_n 3), (16, .aload_n 0), (17, .iload_n 2)] (by decide +kernel) rfl rfl ?_
  refine g_callVp (2, 0, h) [vI o] [] vl_RX1_118 mi_X1_loadOf (c_X1_loadOf l hH o) rfl rfl rfl rfl ⟨Nat.le_of_ble_eq_true rfl, Nat.le_of_ble_eq_true rfl⟩ rfl (Nat.le_of_ble_eq_true rfl) (by decide +kernel) ?_
  refine g_blk (pc' := 27) (loc' := [some (vR (2, 0, h)), some (vI r), some (vI o), some (vI ((loadS (habs σ h) r) * (cl (habs σ h) 0 o (0 : Int32)))), none]) (st' := [vI (0 : Int32), vI r, vR (0, 0, h), vI (loadS (habs σ h) o)]) (σ' := σ) fl1_ok [(21, .aload_n 0), (22, .getfield 16), (25, .iload_n 1), (26, .iconst 0)] (by decide +kernel) rfl rfl ?_
  refine g_callVp (0, 0, h) [vI r, vI (0 : Int32)] [vI (loadS (habs σ h) o)] vl_RX1_58 mi_X3_cell (ct_cell l hH 0 (by decide) r (0 : Int32)) rfl rfl rfl rfl ⟨Nat.le_of_ble_eq_true rfl, Nat.le_of_ble_eq_true rfl⟩ rfl (Nat.le_of_ble_eq_true rfl) (by decide +kernel) ?_
  refine g_blk (pc' := 36) (loc' := [some (vR (2, 0, h)), some (vI r), some (vI o), some (vI ((loadS (habs σ h) r) * (cl (habs σ h) 0 o (0 : Int32)))), some (vI ((loadS (habs σ h) o) * (cl (habs σ h) 0 r (0 : Int32))))]) (st' := [vI ((loadS (habs σ h) o) * (cl (habs σ h) 0 r (0 : Int32))), vI ((loadS (habs σ h) r) * (cl (habs σ h) 0 o (0 : Int32)))]) (σ' := σ) fl1_ok [(30, .imul), (31, .istore 4), (33, .iload_n 3), (34, .iload 4)] (by decide +kernel) rfl rfl ?_
  refine g_icmp_eq (off := 15) (tgt := 51) (by decide +kernel) (by decide) (fun zc36 => ?_) (fun zc36 => ?_)
  · refine g_blk (pc' := 57) (loc' := [some (vR (2, 0, h)), some (vI r), some (vI o), some (vI ((loadS (habs σ h) r) * (cl (habs σ h) 0 o (0 : Int32)))), some (vI ((loadS (habs σ h) o) * (cl (habs σ h) 0 r (0 : Int32))))]) (st' := [vI (4 : Int32), vI r, vR (0, 0, h)]) (σ' := σ) fl1_ok [(51, .aload_n 0), (52, .getfield 16), (55, .iload_n 1), (56, .iconst 4)] (by decide +kernel) rfl rfl ?_
    refine g_callVp (0, 0, h) [vI r, vI (4 : Int32)] [] vl_RX1_58 mi_X3_cell (ct_cell l hH 0 (by decide) r (4 : Int32)) rfl rfl rfl rfl ⟨Nat.le_of_ble_eq_true rfl, Nat.le_of_ble_eq_true rfl⟩ rfl (Nat.le_of_ble_eq_true rfl) (by decide +kernel) ?_
    refine g_blk (pc' := 66) (loc' := [some (vR (2, 0, h)), some (vI r), some (vI o), some (vI ((loadS (habs σ h) r) * (cl (habs σ h) 0 o (0 : Int32)))), some (vI ((loadS (habs σ h) o) * (cl (habs σ h) 0 r (0 : Int32))))]) (st' := [vI (4 : Int32), vI o, vR (0, 0, h), vI (cl (habs σ h) 0 r (4 : Int32))]) (σ' := σ) fl1_ok [(60, .aload_n 0), (61, .getfield 16), (64, .iload_n 2), (65, .iconst 4)] (by decide +kernel) rfl rfl ?_
    refine g_callVp (0, 0, h) [vI o, vI (4 : Int32)] [vI (cl (habs σ h) 0 r (4 : Int32))] vl_RX1_58 mi_X3_cell (ct_cell l hH 0 (by decide) o (4 : Int32)) rfl rfl rfl rfl ⟨Nat.le_of_ble_eq_true rfl, Nat.le_of_ble_eq_true rfl⟩ rfl (Nat.le_of_ble_eq_true rfl) (by decide +kernel) ?_
    refine g_icmp_le (off := 7) (tgt := 76) (by decide +kernel) (by decide) (fun zc69 => ?_) (fun zc69 => ?_)
    · refine g_blk (pc' := 77) (loc' := [some (vR (2, 0, h)), some (vI r), some (vI o), some (vI ((loadS (habs σ h) r) * (cl (habs σ h) 0 o (0 : Int32)))), some (vI ((loadS (habs σ h) o) * (cl (habs σ h) 0 r (0 : Int32))))]) (st' := [vI (0 : Int32)]) (σ' := σ) fl1_ok [(76, .iconst 0)] (by decide +kernel) rfl rfl ?_
      exact g_zret (by decide +kernel) (Or.inl rfl) (by rw [aheadS, if_pos zc36, if_pos zc69]; exact ⟨rfl, rfl⟩)
    · refine g_blk (pc' := 77) (loc' := [some (vR (2, 0, h)), some (vI r), some (vI o), some (vI ((loadS (habs σ h) r) * (cl (habs σ h) 0 o (0 : Int32)))), some (vI ((loadS (habs σ h) o) * (cl (habs σ h) 0 r (0 : Int32))))]) (st' := [vI (1 : Int32)]) (σ' := σ) fl1_ok [(72, .iconst 1), (73, .goto 4)] (by decide +kernel) rfl rfl ?_
      exact g_zret (by decide +kernel) (Or.inr rfl) (by rw [aheadS, if_pos zc36, if_neg zc69]; exact ⟨rfl, rfl⟩)
  · refine g_blk (pc' := 42) (loc' := [some (vR (2, 0, h)), some (vI r), some (vI o), some (vI ((loadS (habs σ h) r) * (cl (habs σ h) 0 o (0 : Int32)))), some (vI ((loadS (habs σ h) o) * (cl (habs σ h) 0 r (0 : Int32))))]) (st' := [vI ((loadS (habs σ h) o) * (cl (habs σ h) 0 r (0 : Int32))), vI ((loadS (habs σ h) r) * (cl (habs σ h) 0 o (0 : Int32)))]) (σ' := σ) fl1_ok [(39, .iload_n 3), (40, .iload 4)] (by decide +kernel) rfl rfl ?_
    refine g_icmp_ge (off := 7) (tgt := 49) (by decide +kernel) (by decide) (fun zc42 => ?_) (fun zc42 => ?_)
    · refine g_blk (pc' := 50) (loc' := [some (vR (2, 0, h)), some (vI r), some (vI o), some (vI ((loadS (habs σ h) r) * (cl (habs σ h) 0 o (0 : Int32)))), some (vI ((loadS (habs σ h) o) * (cl (habs σ h) 0 r (0 : Int32))))]) (st' := [vI (0 : Int32)]) (σ' := σ) fl1_ok [(49, .iconst 0)] (by decide +kernel) rfl rfl ?_
      exact g_zret (by decide +kernel) (Or.inl rfl) (by rw [aheadS, if_neg zc36, if_pos zc42]; exact ⟨rfl, rfl⟩)
    · refine g_blk (pc' := 50) (loc' := [some (vR (2, 0, h)), some (vI r), some (vI o), some (vI ((loadS (habs σ h) r) * (cl (habs σ h) 0 o (0 : Int32)))), some (vI ((loadS (habs σ h) o) * (cl (habs σ h) 0 r (0 : Int32))))]) (st' := [vI (1 : Int32)]) (σ' := σ) fl1_ok [(45, .iconst 1), (46, .goto 4)] (by decide +kernel) rfl rfl ?_
      exact g_zret (by decide +kernel) (Or.inr rfl) (by rw [aheadS, if_neg zc36, if_neg zc42]; exact ⟨rfl, rfl⟩)
set_option maxHeartbeats 2000000 in
theorem c_X1_isOpen (l : Launch) {σ : Sg} {h : Nat} (hH : HOK σ h) (t : Int32) : Con l 1 yX1_isOpen cX1_isOpen 2 (some .boolean) [vR (2, 0, h), vI t] σ (pureP (openS (habs σ h) t) σ) := by
  refine con_of pn_X1_isOpen (Nat.le_of_ble_eq_true rfl) (fun hPK hok => ?_)
  show G l (Rm 1) RX1 cX1_isOpen 2 (some .boolean) _ 0 [some (vR (2, 0, h)), some (vI t)] [] σ
  refine g_blk (pc' := 5) (loc' := [some (vR (2, 0, h)), some (vI t)]) (st' := [vI t, vR (0, 2, h)]) (σ' := σ) fl1_ok [(0, .aload_n 0), (1, .getfield 23), (4, .iload_n 1)] (by decide +kernel) rfl rfl ?_
  refine g_callVp (0, 2, h) [vI t] [] vl_RX1_121 mi_X3_has (ct_has l hH 2 (by decide) t) rfl rfl rfl rfl ⟨Nat.le_of_ble_eq_true rfl, Nat.le_of_ble_eq_true rfl⟩ rfl (Nat.le_of_ble_eq_true rfl) (by decide +kernel) ?_
  refine g_if_eq (off := 19) (tgt := 27) (by decide +kernel) (by decide) (fun zc8 => ?_) (fun zc8 => ?_)
  · refine g_blk (pc' := 28) (loc' := [some (vR (2, 0, h)), some (vI t)]) (st' := [vI (0 : Int32)]) (σ' := σ) fl1_ok [(27, .iconst 0)] (by decide +kernel) rfl rfl ?_
    exact g_zret (by decide +kernel) (Or.inl rfl) (by rw [openS, if_pos zc8]; exact ⟨rfl, rfl⟩)
  · refine g_blk (pc' := 17) (loc' := [some (vR (2, 0, h)), some (vI t)]) (st' := [vI (3 : Int32), vI t, vR (0, 2, h)]) (σ' := σ) fl1_ok [(11, .aload_n 0), (12, .getfield 23), (15, .iload_n 1), (16, .iconst 3)] (by decide +kernel) rfl rfl ?_
    refine g_callVp (0, 2, h) [vI t, vI (3 : Int32)] [] vl_RX1_58 mi_X3_cell (ct_cell l hH 2 (by decide) t (3 : Int32)) rfl rfl rfl rfl ⟨Nat.le_of_ble_eq_true rfl, Nat.le_of_ble_eq_true rfl⟩ rfl (Nat.le_of_ble_eq_true rfl) (by decide +kernel) ?_
    refine g_if_ne (off := 7) (tgt := 27) (by decide +kernel) (by decide) (fun zc20 => ?_) (fun zc20 => ?_)
    · refine g_blk (pc' := 28) (loc' := [some (vR (2, 0, h)), some (vI t)]) (st' := [vI (0 : Int32)]) (σ' := σ) fl1_ok [(27, .iconst 0)] (by decide +kernel) rfl rfl ?_
      exact g_zret (by decide +kernel) (Or.inl rfl) (by rw [openS, if_neg zc8, if_pos zc20]; exact ⟨rfl, rfl⟩)
    · refine g_blk (pc' := 28) (loc' := [some (vR (2, 0, h)), some (vI t)]) (st' := [vI (1 : Int32)]) (σ' := σ) fl1_ok [(23, .iconst 1), (24, .goto 4)] (by decide +kernel) rfl rfl ?_
      exact g_zret (by decide +kernel) (Or.inr rfl) (by rw [openS, if_neg zc8, if_neg (not_not_intro zc20)]; exact ⟨rfl, rfl⟩)
set_option maxHeartbeats 2000000 in
theorem c_X1_isOpenTaskOf (l : Launch) {σ : Sg} {h : Nat} (hH : HOK σ h) (t r : Int32) : Con l 2 yX1_isOpenTaskOf cX1_isOpenTaskOf 3 (some .boolean) [vR (2, 0, h), vI t, vI r] σ (pureP (openOfS (habs σ h) t r) σ) := by
  refine con_of pn_X1_isOpenTaskOf (Nat.le_of_ble_eq_true rfl) (fun hPK hok => ?_)
  show G l (Rm 2) RX1 cX1_isOpenTaskOf 3 (some .boolean) _ 0 [some (vR (2, 0, h)), some (vI t), some (vI r)] [] σ
  refine g_blk (pc' := 2) (loc' := [some (vR (2, 0, h)), some (vI t), some (vI r)]) (st' := [vI t, vR (2, 0, h)]) (σ' := σ) fl1_ok [(0, .aload_n 0), (1, .iload_n 1)] (by decide +kernel) rfl rfl ?_
  refine g_callVp (2, 0, h) [vI t] [] vl_RX1_124 mi_X1_isOpen (c_X1_isOpen l hH t) rfl rfl rfl rfl ⟨Nat.le_of_ble_eq_true rfl, Nat.le_of_ble_eq_true rfl⟩ rfl (Nat.le_of_ble_eq_true rfl) (by decide +kernel) ?_
  refine g_if_eq (off := 20) (tgt := 25) (by decide +kernel) (by decide) (fun zc5 => ?_) (fun zc5 => ?_)
  · refine g_blk (pc' := 26) (loc' := [some (vR (2, 0, h)), some (vI t), some (vI r)]) (st' := [vI (0 : Int32)]) (σ' := σ) fl1_ok [(25, .iconst 0)] (by decide +kernel) rfl rfl ?_
    exact g_zret (by decide +kernel) (Or.inl rfl) (by rw [openOfS, if_pos zc5]; exact ⟨rfl, rfl⟩)
  · refine g_blk (pc' := 14) (loc' := [some (vR (2, 0, h)), some (vI t), some (vI r)]) (st' := [vI (1 : Int32), vI t, vR (0, 2, h)]) (σ' := σ) fl1_ok [(8, .aload_n 0), (9, .getfield 23), (12, .iload_n 1), (13, .iconst 1)] (by decide +kernel) rfl rfl ?_
    refine g_callVp (0, 2, h) [vI t, vI (1 : Int32)] [] vl_RX1_58 mi_X3_cell (ct_cell l hH 2 (by decide) t (1 : Int32)) rfl rfl rfl rfl ⟨Nat.le_of_ble_eq_true rfl, Nat.le_of_ble_eq_true rfl⟩ rfl (Nat.le_of_ble_eq_true rfl) (by decide +kernel) ?_
    refine g_blk (pc' := 18) (loc' := [some (vR (2, 0, h)), some (vI t), some (vI r)]) (st' := [vI r, vI (cl (habs σ h) 2 t (1 : Int32))]) (σ' := σ) fl1_ok [(17, .iload_n 2)] (by decide +kernel) rfl rfl ?_
    refine g_icmp_ne (off := 7) (tgt := 25) (by decide +kernel) (by decide) (fun zc18 => ?_) (fun zc18 => ?_)
    · refine g_blk (pc' := 26) (loc' := [some (vR (2, 0, h)), some (vI t), some (vI r)]) (st' := [vI (0 : Int32)]) (σ' := σ) fl1_ok [(25, .iconst 0)] (by decide +kernel) rfl rfl ?_
      exact g_zret (by decide +kernel) (Or.inl rfl) (by rw [openOfS, if_neg zc5, if_pos zc18]; exact ⟨rfl, rfl⟩)
    · refine g_blk (pc' := 26) (loc' := [some (vR (2, 0, h)), some (vI t), some (vI r)]) (st' := [vI (1 : Int32)]) (σ' := σ) fl1_ok [(21, .iconst 1), (22, .goto 4)] (by decide +kernel) rfl rfl ?_
      exact g_zret (by decide +kernel) (Or.inr rfl) (by rw [openOfS, if_neg zc5, if_neg (not_not_intro zc18)]; exact ⟨rfl, rfl⟩)
set_option maxHeartbeats 2000000 in
theorem c_X1_effortOfTask (l : Launch) {σ : Sg} {h : Nat} (hH : HOK σ h) (a : Int32) : Con l 2 yX1_effortOfTask cX1_effortOfTask 3 (some .int) [vR (2, 0, h), vI a] σ (pureP (effS (habs σ h) a) σ) := by
  refine con_of pn_X1_effortOfTask (Nat.le_of_ble_eq_true rfl) (fun hPK hok => ?_)
  show G l (Rm 2) RX1 cX1_effortOfTask 3 (some .int) _ 0 [some (vR (2, 0, h)), some (vI a), none] [] σ
  refine g_blk (pc' := 6) (loc' := [some (vR (2, 0, h)), some (vI a), none]) (st' := [vI (0 : Int32), vI a, vR (0, 1, h)]) (σ' := σ) fl1_ok [(0, .aload_n 0), (1, .getfield 20), (4, .iload_n 1), (5, .iconst 0)] (by decide +kernel) rfl rfl ?_
  refine g_callVp (0, 1, h) [vI a, vI (0 : Int32)] [] vl_RX1_58 mi_X3_cell (ct_cell l hH 1 (by decide) a (0 : Int32)) rfl rfl rfl rfl ⟨Nat.le_of_ble_eq_true rfl, Nat.le_of_ble_eq_true rfl⟩ rfl (Nat.le_of_ble_eq_true rfl) (by decide +kernel) ?_
  refine g_blk (pc' := 12) (loc' := [some (vR (2, 0, h)), some (vI a), some (vI (cl (habs σ h) 1 a (0 : Int32)))]) (st' := [vI a, vR (2, 0, h)]) (σ' := σ) fl1_ok [(9, .istore_n 2), (10, .aload_n 0), (11, .iload_n 1)] (by decide +kernel) rfl rfl ?_
  refine g_callVp (2, 0, h) [vI a] [] vl_RX1_93 mi_X1_needsDeepClean (c_X1_needsDeepClean l hH a) rfl rfl rfl rfl ⟨Nat.le_of_ble_eq_true rfl, Nat.le_of_ble_eq_true rfl⟩ rfl (Nat.le_of_ble_eq_true rfl) (by decide +kernel) ?_
  refine g_if_eq (off := 19) (tgt := 34) (by decide +kernel) (by decide) (fun zc15 => ?_) (fun zc15 => ?_)
  · refine g_blk (pc' := 36) (loc' := [some (vR (2, 0, h)), some (vI a), some (vI (cl (habs σ h) 1 a (0 : Int32)))]) (st' := [vI a, vR (2, 0, h)]) (σ' := σ) fl1_ok [(34, .aload_n 0), (35, .iload_n 1)] (by decide +kernel) rfl rfl ?_
    refine g_callVp (2, 0, h) [vI a] [] vl_RX1_101 mi_X1_isDue (c_X1_isDue l hH a) rfl rfl rfl rfl ⟨Nat.le_of_ble_eq_true rfl, Nat.le_of_ble_eq_true rfl⟩ rfl (Nat.le_of_ble_eq_true rfl) (by decide +kernel) ?_
    refine g_if_eq (off := 7) (tgt := 46) (by decide +kernel) (by decide) (fun zc39 => ?_) (fun zc39 => ?_)
    · refine g_blk (pc' := 47) (loc' := [some (vR (2, 0, h)), some (vI a), some (vI (cl (habs σ h) 1 a (0 : Int32)))]) (st' := [vI (0 : Int32)]) (σ' := σ) fl1_ok [(46, .iconst 0)] (by decide +kernel) rfl rfl ?_
      exact g_iret (by decide +kernel) (by rw [effS, if_pos zc15, if_pos zc39]; exact ⟨rfl, rfl⟩)
    · refine g_blk (pc' := 47) (loc' := [some (vR (2, 0, h)), some (vI a), some (vI (cl (habs σ h) 1 a (0 : Int32)))]) (st' := [vI (cl (habs σ h) 1 a (0 : Int32))]) (σ' := σ) fl1_ok [(42, .iload_n 2), (43, .goto 4)] (by decide +kernel) rfl rfl ?_
      exact g_iret (by decide +kernel) (by rw [effS, if_pos zc15, if_neg zc39]; exact ⟨rfl, rfl⟩)
  · refine g_blk (pc' := 24) (loc' := [some (vR (2, 0, h)), some (vI a), some (vI (cl (habs σ h) 1 a (0 : Int32)))]) (st' := [vI (2 : Int32), vI (0 : Int32), vR (0, 4, h)]) (σ' := σ) fl1_ok [(18, .aload_n 0), (19, .getfield 29), (22, .iconst 0), (23, .iconst 2)] (by decide +kernel) rfl rfl ?_
    refine g_callVp (0, 4, h) [vI (0 : Int32), vI (2 : Int32)] [] vl_RX1_58 mi_X3_cell (ct_cell l hH 4 (by decide) (0 : Int32) (2 : Int32)) rfl rfl rfl rfl ⟨Nat.le_of_ble_eq_true rfl, Nat.le_of_ble_eq_true rfl⟩ rfl (Nat.le_of_ble_eq_true rfl) (by decide +kernel) ?_
    refine g_blk (pc' := 32) (loc' := [some (vR (2, 0, h)), some (vI a), some (vI (cl (habs σ h) 1 a (0 : Int32)))]) (st' := [vI (2 : Int32), vI (((cl (habs σ h) 4 (0 : Int32) (2 : Int32)) * (cl (habs σ h) 1 a (0 : Int32))) + (1 : Int32))]) (σ' := σ) fl1_ok [(27, .iload_n 2), (28, .imul), (29, .iconst 1), (30, .iadd), (31, .iconst 2)] (by decide +kernel) rfl rfl ?_
    refine g_idiv (hy := by decide) (hd := by decide +kernel) (k := ?_)
    exact g_iret (by decide +kernel) (by rw [effS, if_neg zc15]; exact ⟨rfl, rfl⟩)
set_option maxHeartbeats 2000000 in
theorem c_X1_canExchange (l : Launch) {σ : Sg} {h : Nat} (hH : HOK σ h) (a b : Int32) : Con l 2 yX1_canExchange cX1_canExchange 3 (some .boolean) [vR (2, 0, h), vI a, vI b] σ (pureP (canS (habs σ h) a b) σ) := by
  refine con_of pn_X1_canExchange (Nat.le_of_ble_eq_true rfl) (fun hPK hok => ?_)
  show G l (Rm 2) RX1 cX1_canExchange 3 (some .boolean) _ 0 [some (vR (2, 0, h)), some (vI a), some (vI b)] [] σ
  refine g_blk (pc' := 2) (loc' := [some (vR (2, 0, h)), some (vI a), some (vI b)]) (st' := [vI a, vR (2, 0, h)]) (σ' := σ) fl1_ok [(0, .aload_n 0), (1, .iload_n 1)] (by decide +kernel) rfl rfl ?_
  refine g_callVp (2, 0, h) [vI a] [] vl_RX1_124 mi_X1_isOpen (c_X1_isOpen l hH a) rfl rfl rfl rfl ⟨Nat.le_of_ble_eq_true rfl, Nat.le_of_ble_eq_true rfl⟩ rfl (Nat.le_of_ble_eq_true rfl) (by decide +kernel) ?_
  refine g_if_eq (off := 36) (tgt := 41) (by decide +kernel) (by decide) (fun zc5 => ?_) (fun zc5 => ?_)
  · refine g_blk (pc' := 42) (loc' := [some (vR (2, 0, h)), some (vI a), some (vI b)]) (st' := [vI (0 : Int32)]) (σ' := σ) fl1_ok [(41, .iconst 0)] (by decide +kernel) rfl rfl ?_
    exact g_zret (by decide +kernel) (Or.inl rfl) (by rw [canS, if_pos zc5]; exact ⟨rfl, rfl⟩)
  · refine g_blk (pc' := 10) (loc' := [some (vR (2, 0, h)), some (vI a), some (vI b)]) (st' := [vI b, vR (2, 0, h)]) (σ' := σ) fl1_ok [(8, .aload_n 0), (9, .iload_n 2)] (by decide +kernel) rfl rfl ?_
    refine g_callVp (2, 0, h) [vI b] [] vl_RX1_124 mi_X1_isOpen (c_X1_isOpen l hH b) rfl rfl rfl rfl ⟨Nat.le_of_ble_eq_true rfl, Nat.le_of_ble_eq_true rfl⟩ rfl (Nat.le_of_ble_eq_true rfl) (by decide +kernel) ?_
    refine g_if_eq (off := 28) (tgt := 41) (by decide +kernel) (by decide) (fun zc13 => ?_) (fun zc13 => ?_)
    · refine g_blk (pc' := 42) (loc' := [some (vR (2, 0, h)), some (vI a), some (vI b)]) (st' := [vI (0 : Int32)]) (σ' := σ) fl1_ok [(41, .iconst 0)] (by decide +kernel) rfl rfl ?_
      exact g_zret (by decide +kernel) (Or.inl rfl) (by rw [canS, if_neg zc5, if_pos zc13]; exact ⟨rfl, rfl⟩)
    · refine g_blk (pc' := 22) (loc' := [some (vR (2, 0, h)), some (vI a), some (vI b)]) (st' := [vI (1 : Int32), vI a, vR (0, 2, h)]) (σ' := σ) fl1_ok [(16, .aload_n 0), (17, .getfield 23), (20, .iload_n 1), (21, .iconst 1)] (by decide +kernel) rfl rfl ?_
      refine g_callVp (0, 2, h) [vI a, vI (1 : Int32)] [] vl_RX1_58 mi_X3_cell (ct_cell l hH 2 (by decide) a (1 : Int32)) rfl rfl rfl rfl ⟨Nat.le_of_ble_eq_true rfl, Nat.le_of_ble_eq_true rfl⟩ rfl (Nat.le_of_ble_eq_true rfl) (by decide +kernel) ?_
      refine g_blk (pc' := 31) (loc' := [some (vR (2, 0, h)), some (vI a), some (vI b)]) (st' := [vI (1 : Int32), vI b, vR (0, 2, h), vI (cl (habs σ h) 2 a (1 : Int32))]) (σ' := σ) fl1_ok [(25, .aload_n 0), (26, .getfield 23), (29, .iload_n 2), (30, .iconst 1)] (by decide +kernel) rfl rfl ?_
      refine g_callVp (0, 2, h) [vI b, vI (1 : Int32)] [vI (cl (habs σ h) 2 a (1 : Int32))] vl_RX1_58 mi_X3_cell (ct_cell l hH 2 (by decide) b (1 : Int32)) rfl rfl rfl rfl ⟨Nat.le_of_ble_eq_true rfl, Nat.le_of_ble_eq_true rfl⟩ rfl (Nat.le_of_ble_eq_true rfl) (by decide +kernel) ?_
      refine g_icmp_eq (off := 7) (tgt := 41) (by decide +kernel) (by decide) (fun zc34 => ?_) (fun zc34 => ?_)
      · refine g_blk (pc' := 42) (loc' := [some (vR (2, 0, h)), some (vI a), some (vI b)]) (st' := [vI (0 : Int32)]) (σ' := σ) fl1_ok [(41, .iconst 0)] (by decide +kernel) rfl rfl ?_
        exact g_zret (by decide +kernel) (Or.inl rfl) (by rw [canS, if_neg zc5, if_neg zc13, if_pos zc34]; exact ⟨rfl, rfl⟩)
      · refine g_blk (pc' := 42) (loc' := [some (vR (2, 0, h)), some (vI a), some (vI b)]) (st' := [vI (1 : Int32)]) (σ' := σ) fl1_ok [(37, .iconst 1), (38, .goto 4)] (by decide +kernel) rfl rfl ?_
        exact g_zret (by decide +kernel) (Or.inr rfl) (by rw [canS, if_neg zc5, if_neg zc13, if_neg zc34]; exact ⟨rfl, rfl⟩)
set_option maxHeartbeats 2000000 in
theorem c_X1_gainOfExchange (l : Launch) {σ : Sg} {h : Nat} (hH : HOK σ h) (a b : Int32) : Con l 1 yX1_gainOfExchange cX1_gainOfExchange 3 (some .int) [vR (2, 0, h), vI a, vI b] σ (pureP (gainS (habs σ h) a b) σ) := by
  refine con_of pn_X1_gainOfExchange (Nat.le_of_ble_eq_true rfl) (fun hPK hok => ?_)
  show G l (Rm 1) RX1 cX1_gainOfExchange 3 (some .int) _ 0 [some (vR (2, 0, h)), some (vI a), some (vI b)] [] σ
  refine g_blk (pc' := 6) (loc' := [some (vR (2, 0, h)), some (vI a), some (vI b)]) (st' := [vI (2 : Int32), vI b, vR (0, 2, h)]) (σ' := σ) fl1_ok [(0, .aload_n 0), (1, .getfield 23), (4, .iload_n 2), (5, .iconst 2)] (by decide +kernel) rfl rfl ?_
  refine g_callVp (0, 2, h) [vI b, vI (2 : Int32)] [] vl_RX1_58 mi_X3_cell (ct_cell l hH 2 (by decide) b (2 : Int32)) rfl rfl rfl rfl ⟨Nat.le_of_ble_eq_true rfl, Nat.le_of_ble_eq_true rfl⟩ rfl (Nat.le_of_ble_eq_true rfl) (by decide +kernel) ?_
  refine g_blk (pc' := 15) (loc' := [some (vR (2, 0, h)), some (vI a), some (vI b)]) (st' := [vI (2 : Int32), vI a, vR (0, 2, h), vI (cl (habs σ h) 2 b (2 : Int32))]) (σ' := σ) fl1_ok [(9, .aload_n 0), (10, .getfield 23), (13, .iload_n 1), (14, .iconst 2)] (by decide +kernel) rfl rfl ?_
  refine g_callVp (0, 2, h) [vI a, vI (2 : Int32)] [vI (cl (habs σ h) 2 b (2 : Int32))] vl_RX1_58 mi_X3_cell (ct_cell l hH 2 (by decide) a (2 : Int32)) rfl rfl rfl rfl ⟨Nat.le_of_ble_eq_true rfl, Nat.le_of_ble_eq_true rfl⟩ rfl (Nat.le_of_ble_eq_true rfl) (by decide +kernel) ?_
  refine g_blk (pc' := 19) (loc' := [some (vR (2, 0, h)), some (vI a), some (vI b)]) (st' := [vI ((cl (habs σ h) 2 b (2 : Int32)) - (cl (habs σ h) 2 a (2 : Int32)))]) (σ' := σ) fl1_ok [(18, .isub)] (by decide +kernel) rfl rfl ?_
  exact g_iret (by decide +kernel) (by exact ⟨rfl, rfl⟩)
set_option maxHeartbeats 2000000 in
theorem c_X1_rateOf (l : Launch) {σ : Sg} {h : Nat} (hH : HOK σ h) (r x : Int32) : Con l 1 yX1_rateOf cX1_rateOf 4 (some .int) [vR (2, 0, h), vI r, vI x] σ (pureP (rateS (habs σ h) r x) σ) := by
  refine con_of pn_X1_rateOf (Nat.le_of_ble_eq_true rfl) (fun hPK hok => ?_)
  show G l (Rm 1) RX1 cX1_rateOf 4 (some .int) _ 0 [some (vR (2, 0, h)), some (vI r), some (vI x), none] [] σ
  refine g_blk (pc' := 6) (loc' := [some (vR (2, 0, h)), some (vI r), some (vI x), none]) (st' := [vI (0 : Int32), vI r, vR (0, 0, h)]) (σ' := σ) fl1_ok [(0, .aload_n 0), (1, .getfield 16), (4, .iload_n 1), (5, .iconst 0)] (by decide +kernel) rfl rfl ?_
  refine g_callVp (0, 0, h) [vI r, vI (0 : Int32)] [] vl_RX1_58 mi_X3_cell (ct_cell l hH 0 (by decide) r (0 : Int32)) rfl rfl rfl rfl ⟨Nat.le_of_ble_eq_true rfl, Nat.le_of_ble_eq_true rfl⟩ rfl (Nat.le_of_ble_eq_true rfl) (by decide +kernel) ?_
  refine g_blk (pc' := 11) (loc' := [some (vR (2, 0, h)), some (vI r), some (vI x), some (vI (cl (habs σ h) 0 r (0 : Int32)))]) (st' := [vI (cl (habs σ h) 0 r (0 : Int32))]) (σ' := σ) fl1_ok [(9, .istore_n 3), (10, .iload_n 3)] (by decide +kernel) rfl rfl ?_
  refine g_if_le (off := 13) (tgt := 24) (by decide +kernel) (by decide) (fun zc11 => ?_) (fun zc11 => ?_)
  · refine g_blk (pc' := 25) (loc' := [some (vR (2, 0, h)), some (vI r), some (vI x), some (vI (cl (habs σ h) 0 r (0 : Int32)))]) (st' := [vI (0 : Int32)]) (σ' := σ) fl1_ok [(24, .iconst 0)] (by decide +kernel) rfl rfl ?_
    exact g_iret (by decide +kernel) (by rw [rateS, if_pos zc11]; exact ⟨rfl, rfl⟩)
  · refine g_blk (pc' := 20) (loc' := [some (vR (2, 0, h)), some (vI r), some (vI x), some (vI (cl (habs σ h) 0 r (0 : Int32)))]) (st' := [vI (cl (habs σ h) 0 r (0 : Int32)), vI ((1000 : Int32) * x)]) (σ' := σ) fl1_ok [(14, .sipush 1000), (17, .iload_n 2), (18, .imul), (19, .iload_n 3)] (by decide +kernel) rfl rfl ?_
    refine g_idiv (hy := fun z => zc11 (by rw [z]; decide)) (hd := by decide +kernel) (k := ?_)
    refine g_blk (pc' := 25) (loc' := [some (vR (2, 0, h)), some (vI r), some (vI x), some (vI (cl (habs σ h) 0 r (0 : Int32)))]) (st' := [vI (((1000 : Int32) * x) / (cl (habs σ h) 0 r (0 : Int32)))]) (σ' := σ) fl1_ok [(21, .goto 4)] (by decide +kernel) rfl rfl ?_
    exact g_iret (by decide +kernel) (by rw [rateS, if_neg zc11]; exact ⟨rfl, rfl⟩)
set_option maxHeartbeats 2000000 in
theorem lp_X1_greatestDirt (l : Launch) {σ : Sg} {h : Nat} (hH : HOK σ h) : ∀ (k i : Nat), i ≤ sz (habs σ h) 1 → sz (habs σ h) 1 < i + k → G l (Rm 1) RX1 cX1_greatestDirt 3 (some .int) (pureP (dirtL (habs σ h) (sz (habs σ h) 1)) σ) 4 [some (vR (2, 0, h)), some (vI (dirtL (habs σ h) i)), some (vI (nI i))] [] σ := by
  intro k
  induction k with
  | zero =>
    intro i  hi hk
    exact absurd hk (by omega)
  | succ k ih =>
    intro i  hi hk
    refine g_blk (pc' := 9) (loc' := [some (vR (2, 0, h)), some (vI (dirtL (habs σ h) i)), some (vI (nI i))]) (st' := [vR (0, 1, h), vI (nI i)]) (σ' := σ) fl1_ok [(4, .iload_n 2), (5, .aload_n 0), (6, .getfield 20)] (by decide +kernel) rfl rfl ?_
    refine g_callVp (0, 1, h) [] [vI (nI i)] vl_RX1_66 mi_X3_size (ct_size l hH 1 (by decide)) rfl rfl rfl rfl ⟨Nat.le_of_ble_eq_true rfl, Nat.le_of_ble_eq_true rfl⟩ rfl (Nat.le_of_ble_eq_true rfl) (by decide +kernel) ?_
    refine g_icmp_ge (off := 23) (tgt := 35) (by decide +kernel) (by decide) (fun zc12 => ?_) (fun zc12 => ?_)
    · rw [nI_leI (by have := ha_N hH 1 (by decide); have := mst_le 1; omega) (by have := ha_N hH 1 (by decide); have := mst_le 1; omega)] at zc12
      refine g_blk (pc' := 36) (loc' := [some (vR (2, 0, h)), some (vI (dirtL (habs σ h) i)), some (vI (nI i))]) (st' := [vI (dirtL (habs σ h) i)]) (σ' := σ) fl1_ok [(35, .iload_n 1)] (by decide +kernel) rfl rfl ?_
      have ei : i = sz (habs σ h) 1 := by omega
      subst ei
      exact g_iret (by decide +kernel) ⟨rfl, rfl⟩
    · rw [nI_leI (by have := ha_N hH 1 (by decide); have := mst_le 1; omega) (by have := ha_N hH 1 (by decide); have := mst_le 1; omega)] at zc12
      refine g_blk (pc' := 22) (loc' := [some (vR (2, 0, h)), some (vI (dirtL (habs σ h) i)), some (vI (nI i))]) (st' := [vI (3 : Int32), vI (nI i), vR (0, 1, h), vI (dirtL (habs σ h) i)]) (σ' := σ) fl1_ok [(15, .iload_n 1), (16, .aload_n 0), (17, .getfield 20), (20, .iload_n 2), (21, .iconst 3)] (by decide +kernel) rfl rfl ?_
      refine g_callVp (0, 1, h) [vI (nI i), vI (3 : Int32)] [vI (dirtL (habs σ h) i)] vl_RX1_58 mi_X3_cell (ct_cell l hH 1 (by decide) (nI i) (3 : Int32)) rfl rfl rfl rfl ⟨Nat.le_of_ble_eq_true rfl, Nat.le_of_ble_eq_true rfl⟩ rfl (Nat.le_of_ble_eq_true rfl) (by decide +kernel) ?_
      refine g_max jl_RX1_69 ⟨Nat.le_of_ble_eq_true rfl, Nat.le_of_ble_eq_true rfl⟩ (by decide +kernel) ?_
      refine g_blk (pc' := 4) (loc' := [some (vR (2, 0, h)), some (vI (if (dirtL (habs σ h) i) < (cl (habs σ h) 1 (nI i) (3 : Int32)) then (cl (habs σ h) 1 (nI i) (3 : Int32)) else (dirtL (habs σ h) i))), some (vI ((nI i) + (1 : Int32)))]) (st' := []) (σ' := σ) fl1_ok [(28, .istore_n 1), (29, .iinc 2 1), (32, .goto (-28))] (by decide +kernel) rfl rfl ?_
      have hstep : dirtL (habs σ h) (i + 1) = if (dirtL (habs σ h) i) < (cl (habs σ h) 1 (nI i) (3 : Int32)) then (cl (habs σ h) 1 (nI i) (3 : Int32)) else (dirtL (habs σ h) i) := by rw [dirtL]
      rw [nI_1, ← hstep]
      exact g_sub (loc' := [some (vR (2, 0, h)), some (vI (dirtL (habs σ h) (i + 1))), some (vI (nI (i + 1)))]) ⟨Or.inr rfl, ⟨Or.inr rfl, ⟨Or.inr rfl, trivial⟩⟩⟩ (ih (i + 1) (by omega) (by omega))
set_option maxHeartbeats 2000000 in
theorem c_X1_greatestDirt (l : Launch) {σ : Sg} {h : Nat} (hH : HOK σ h) : Con l 1 yX1_greatestDirt cX1_greatestDirt 3 (some .int) [vR (2, 0, h)] σ (pureP (dirtL (habs σ h) (sz (habs σ h) 1)) σ) := by
  refine con_of pn_X1_greatestDirt (Nat.le_of_ble_eq_true rfl) (fun hPK hok => ?_)
  show G l (Rm 1) RX1 cX1_greatestDirt 3 (some .int) _ 0 [some (vR (2, 0, h)), none, none] [] σ
  refine g_blk (pc' := 4) (loc' := [some (vR (2, 0, h)), some (vI (0 : Int32)), some (vI (0 : Int32))]) (st' := []) (σ' := σ) fl1_ok [(0, .iconst 0), (1, .istore_n 1), (2, .iconst 0), (3, .istore_n 2)] (by decide +kernel) rfl rfl ?_
  exact lp_X1_greatestDirt l hH (sz (habs σ h) 1 + 1) 0 (Nat.zero_le _) (by omega)
set_option maxHeartbeats 2000000 in
theorem lp_X1_countOpenTasks (l : Launch) {σ : Sg} {h : Nat} (hH : HOK σ h) : ∀ (k i : Nat), i ≤ sz (habs σ h) 2 → sz (habs σ h) 2 < i + k → G l (Rm 2) RX1 cX1_countOpenTasks 3 (some .int) (pureP (cntL (habs σ h) (sz (habs σ h) 2)) σ) 4 [some (vR (2, 0, h)), some (vI (cntL (habs σ h) i)), some (vI (nI i))] [] σ := by
  intro k
  induction k with
  | zero =>
    intro i  hi hk
    exact absurd hk (by omega)
  | succ k ih =>
    intro i  hi hk
    refine g_blk (pc' := 9) (loc' := [some (vR (2, 0, h)), some (vI (cntL (habs σ h) i)), some (vI (nI i))]) (st' := [vR (0, 2, h), vI (nI i)]) (σ' := σ) fl1_ok [(4, .iload_n 2), (5, .aload_n 0), (6, .getfield 23)] (by decide +kernel) rfl rfl ?_
    refine g_callVp (0, 2, h) [] [vI (nI i)] vl_RX1_66 mi_X3_size (ct_size l hH 2 (by decide)) rfl rfl rfl rfl ⟨Nat.le_of_ble_eq_true rfl, Nat.le_of_ble_eq_true rfl⟩ rfl (Nat.le_of_ble_eq_true rfl) (by decide +kernel) ?_
    refine g_icmp_ge (off := 20) (tgt := 32) (by decide +kernel) (by decide) (fun zc12 => ?_) (fun zc12 => ?_)
    · rw [nI_leI (by have := ha_N hH 2 (by decide); have := mst_le 2; omega) (by have := ha_N hH 2 (by decide); have := mst_le 2; omega)] at zc12
      refine g_blk (pc' := 33) (loc' := [some (vR (2, 0, h)), some (vI (cntL (habs σ h) i)), some (vI (nI i))]) (st' := [vI (cntL (habs σ h) i)]) (σ' := σ) fl1_ok [(32, .iload_n 1)] (by decide +kernel) rfl rfl ?_
      have ei : i = sz (habs σ h) 2 := by omega
      subst ei
      exact g_iret (by decide +kernel) ⟨rfl, rfl⟩
    · rw [nI_leI (by have := ha_N hH 2 (by decide); have := mst_le 2; omega) (by have := ha_N hH 2 (by decide); have := mst_le 2; omega)] at zc12
      refine g_blk (pc' := 18) (loc' := [some (vR (2, 0, h)), some (vI (cntL (habs σ h) i)), some (vI (nI i))]) (st' := [vI (nI i), vR (2, 0, h), vI (cntL (habs σ h) i)]) (σ' := σ) fl1_ok [(15, .iload_n 1), (16, .aload_n 0), (17, .iload_n 2)] (by decide +kernel) rfl rfl ?_
      refine g_callVp (2, 0, h) [vI (nI i)] [vI (cntL (habs σ h) i)] vl_RX1_124 mi_X1_isOpen (c_X1_isOpen l hH (nI i)) rfl rfl rfl rfl ⟨Nat.le_of_ble_eq_true rfl, Nat.le_of_ble_eq_true rfl⟩ rfl (Nat.le_of_ble_eq_true rfl) (by decide +kernel) ?_
      refine g_callNp (idx := 104) [vI (openS (habs σ h) (nI i))] [vI (cntL (habs σ h) i)] (by decide +kernel) nl_X4_bit mi_X4_bit (c_X4_bit l (openS (habs σ h) (nI i))) rfl ⟨Nat.le_of_ble_eq_true rfl, Nat.le_of_ble_eq_true rfl⟩ rfl (Nat.le_of_ble_eq_true rfl) (by decide +kernel) ?_
      refine g_blk (pc' := 4) (loc' := [some (vR (2, 0, h)), some (vI ((cntL (habs σ h) i) + (bitS (openS (habs σ h) (nI i))))), some (vI ((nI i) + (1 : Int32)))]) (st' := []) (σ' := σ) fl1_ok [(24, .iadd), (25, .istore_n 1), (26, .iinc 2 1), (29, .goto (-25))] (by decide +kernel) rfl rfl ?_
      have hstep : cntL (habs σ h) (i + 1) = (cntL (habs σ h) i) + (bitS (openS (habs σ h) (nI i))) := by rw [cntL]
      rw [nI_1, ← hstep]
      exact g_sub (loc' := [some (vR (2, 0, h)), some (vI (cntL (habs σ h) (i + 1))), some (vI (nI (i + 1)))]) ⟨Or.inr rfl, ⟨Or.inr rfl, ⟨Or.inr rfl, trivial⟩⟩⟩ (ih (i + 1) (by omega) (by omega))
set_option maxHeartbeats 2000000 in
theorem c_X1_countOpenTasks (l : Launch) {σ : Sg} {h : Nat} (hH : HOK σ h) : Con l 2 yX1_countOpenTasks cX1_countOpenTasks 3 (some .int) [vR (2, 0, h)] σ (pureP (cntL (habs σ h) (sz (habs σ h) 2)) σ) := by
  refine con_of pn_X1_countOpenTasks (Nat.le_of_ble_eq_true rfl) (fun hPK hok => ?_)
  show G l (Rm 2) RX1 cX1_countOpenTasks 3 (some .int) _ 0 [some (vR (2, 0, h)), none, none] [] σ
  refine g_blk (pc' := 4) (loc' := [some (vR (2, 0, h)), some (vI (0 : Int32)), some (vI (0 : Int32))]) (st' := []) (σ' := σ) fl1_ok [(0, .iconst 0), (1, .istore_n 1), (2, .iconst 0), (3, .istore_n 2)] (by decide +kernel) rfl rfl ?_
  exact lp_X1_countOpenTasks l hH (sz (habs σ h) 2 + 1) 0 (Nat.zero_le _) (by omega)
set_option maxHeartbeats 2000000 in
theorem lp_X1_countOpenTasksOf (l : Launch) {σ : Sg} {h : Nat} (hH : HOK σ h) (r : Int32) : ∀ (k i : Nat), i ≤ sz (habs σ h) 2 → sz (habs σ h) 2 < i + k → G l (Rm 3) RX1 cX1_countOpenTasksOf 4 (some .int) (pureP (cntOL (habs σ h) r (sz (habs σ h) 2)) σ) 4 [some (vR (2, 0, h)), some (vI r), some (vI (cntOL (habs σ h) r i)), some (vI (nI i))] [] σ := by
  intro k
  induction k with
  | zero =>
    intro i  hi hk
    exact absurd hk (by omega)
  | succ k ih =>
    intro i  hi hk
    refine g_blk (pc' := 9) (loc' := [some (vR (2, 0, h)), some (vI r), some (vI (cntOL (habs σ h) r i)), some (vI (nI i))]) (st' := [vR (0, 2, h), vI (nI i)]) (σ' := σ) fl1_ok [(4, .iload_n 3), (5, .aload_n 0), (6, .getfield 23)] (by decide +kernel) rfl rfl ?_
    refine g_callVp (0, 2, h) [] [vI (nI i)] vl_RX1_66 mi_X3_size (ct_size l hH 2 (by decide)) rfl rfl rfl rfl ⟨Nat.le_of_ble_eq_true rfl, Nat.le_of_ble_eq_true rfl⟩ rfl (Nat.le_of_ble_eq_true rfl) (by decide +kernel) ?_
    refine g_icmp_ge (off := 21) (tgt := 33) (by decide +kernel) (by decide) (fun zc12 => ?_) (fun zc12 => ?_)
    · rw [nI_leI (by have := ha_N hH 2 (by decide); have := mst_le 2; omega) (by have := ha_N hH 2 (by decide); have := mst_le 2; omega)] at zc12
      refine g_blk (pc' := 34) (loc' := [some (vR (2, 0, h)), some (vI r), some (vI (cntOL (habs σ h) r i)), some (vI (nI i))]) (st' := [vI (cntOL (habs σ h) r i)]) (σ' := σ) fl1_ok [(33, .iload_n 2)] (by decide +kernel) rfl rfl ?_
      have ei : i = sz (habs σ h) 2 := by omega
      subst ei
      exact g_iret (by decide +kernel) ⟨rfl, rfl⟩
    · rw [nI_leI (by have := ha_N hH 2 (by decide); have := mst_le 2; omega) (by have := ha_N hH 2 (by decide); have := mst_le 2; omega)] at zc12
      refine g_blk (pc' := 19) (loc' := [some (vR (2, 0, h)), some (vI r), some (vI (cntOL (habs σ h) r i)), some (vI (nI i))]) (st' := [vI r, vI (nI i), vR (2, 0, h), vI (cntOL (habs σ h) r i)]) (σ' := σ) fl1_ok [(15, .iload_n 2), (16, .aload_n 0), (17, .iload_n 3), (18, .iload_n 1)] (by decide +kernel) rfl rfl ?_
      refine g_callVp (2, 0, h) [vI (nI i), vI r] [vI (cntOL (habs σ h) r i)] vl_RX1_127 mi_X1_isOpenTaskOf (c_X1_isOpenTaskOf l hH (nI i) r) rfl rfl rfl rfl ⟨Nat.le_of_ble_eq_true rfl, Nat.le_of_ble_eq_true rfl⟩ rfl (Nat.le_of_ble_eq_true rfl) (by decide +kernel) ?_
      refine g_callNp (idx := 104) [vI (openOfS (habs σ h) (nI i) r)] [vI (cntOL (habs σ h) r i)] (by decide +kernel) nl_X4_bit mi_X4_bit (c_X4_bit l (openOfS (habs σ h) (nI i) r)) rfl ⟨Nat.le_of_ble_eq_true rfl, Nat.le_of_ble_eq_true rfl⟩ rfl (Nat.le_of_ble_eq_true rfl) (by decide +kernel) ?_
      refine g_blk (pc' := 4) (loc' := [some (vR (2, 0, h)), some (vI r), some (vI ((cntOL (habs σ h) r i) + (bitS (openOfS (habs σ h) (nI i) r)))), some (vI ((nI i) + (1 : Int32)))]) (st' := []) (σ' := σ) fl1_ok [(25, .iadd), (26, .istore_n 2), (27, .iinc 3 1), (30, .goto (-26))] (by decide +kernel) rfl rfl ?_
      have hstep : cntOL (habs σ h) r (i + 1) = (cntOL (habs σ h) r i) + (bitS (openOfS (habs σ h) (nI i) r)) := by rw [cntOL]
      rw [nI_1, ← hstep]
      exact g_sub (loc' := [some (vR (2, 0, h)), some (vI r), some (vI (cntOL (habs σ h) r (i + 1))), some (vI (nI (i + 1)))]) ⟨Or.inr rfl, ⟨Or.inr rfl, ⟨Or.inr rfl, ⟨Or.inr rfl, trivial⟩⟩⟩⟩ (ih (i + 1) (by omega) (by omega))
set_option maxHeartbeats 2000000 in
theorem c_X1_countOpenTasksOf (l : Launch) {σ : Sg} {h : Nat} (hH : HOK σ h) (r : Int32) : Con l 3 yX1_countOpenTasksOf cX1_countOpenTasksOf 4 (some .int) [vR (2, 0, h), vI r] σ (pureP (cntOL (habs σ h) r (sz (habs σ h) 2)) σ) := by
  refine con_of pn_X1_countOpenTasksOf (Nat.le_of_ble_eq_true rfl) (fun hPK hok => ?_)
  show G l (Rm 3) RX1 cX1_countOpenTasksOf 4 (some .int) _ 0 [some (vR (2, 0, h)), some (vI r), none, none] [] σ
  refine g_blk (pc' := 4) (loc' := [some (vR (2, 0, h)), some (vI r), some (vI (0 : Int32)), some (vI (0 : Int32))]) (st' := []) (σ' := σ) fl1_ok [(0, .iconst 0), (1, .istore_n 2), (2, .iconst 0), (3, .istore_n 3)] (by decide +kernel) rfl rfl ?_
  exact lp_X1_countOpenTasksOf l hH r (sz (habs σ h) 2 + 1) 0 (Nat.zero_le _) (by omega)
set_option maxHeartbeats 2000000 in
theorem lp_X1_countOpenDeepTasks (l : Launch) {σ : Sg} {h : Nat} (hH : HOK σ h) : ∀ (k i : Nat), i ≤ sz (habs σ h) 2 → sz (habs σ h) 2 < i + k → G l (Rm 2) RX1 cX1_countOpenDeepTasks 3 (some .int) (pureP (cntDL (habs σ h) (sz (habs σ h) 2)) σ) 4 [some (vR (2, 0, h)), some (vI (cntDL (habs σ h) i)), some (vI (nI i))] [] σ := by
  intro k
  induction k with
  | zero =>
    intro i  hi hk
    exact absurd hk (by omega)
  | succ k ih =>
    intro i  hi hk
    refine g_blk (pc' := 9) (loc' := [some (vR (2, 0, h)), some (vI (cntDL (habs σ h) i)), some (vI (nI i))]) (st' := [vR (0, 2, h), vI (nI i)]) (σ' := σ) fl1_ok [(4, .iload_n 2), (5, .aload_n 0), (6, .getfield 23)] (by decide +kernel) rfl rfl ?_
    refine g_callVp (0, 2, h) [] [vI (nI i)] vl_RX1_66 mi_X3_size (ct_size l hH 2 (by decide)) rfl rfl rfl rfl ⟨Nat.le_of_ble_eq_true rfl, Nat.le_of_ble_eq_true rfl⟩ rfl (Nat.le_of_ble_eq_true rfl) (by decide +kernel) ?_
    refine g_icmp_ge (off := 41) (tgt := 53) (by decide +kernel) (by decide) (fun zc12 => ?_) (fun zc12 => ?_)
    · rw [nI_leI (by have := ha_N hH 2 (by decide); have := mst_le 2; omega) (by have := ha_N hH 2 (by decide); have := mst_le 2; omega)] at zc12
      have ei : i = (sz (habs σ h) 2) := by omega
      rw [ei]
      refine g_blk (pc' := 54) (loc' := [some (vR (2, 0, h)), some (vI (cntDL (habs σ h) (sz (habs σ h) 2))), some (vI (nI (sz (habs σ h) 2)))]) (st' := [vI (cntDL (habs σ h) (sz (habs σ h) 2))]) (σ' := σ) fl1_ok [(53, .iload_n 1)] (by decide +kernel) rfl rfl ?_
      exact g_iret (by decide +kernel) (by exact ⟨rfl, rfl⟩)
    · rw [nI_leI (by have := ha_N hH 2 (by decide); have := mst_le 2; omega) (by have := ha_N hH 2 (by decide); have := mst_le 2; omega)] at zc12
      refine g_blk (pc' := 18) (loc' := [some (vR (2, 0, h)), some (vI (cntDL (habs σ h) i)), some (vI (nI i))]) (st' := [vI (nI i), vR (2, 0, h), vI (cntDL (habs σ h) i)]) (σ' := σ) fl1_ok [(15, .iload_n 1), (16, .aload_n 0), (17, .iload_n 2)] (by decide +kernel) rfl rfl ?_
      refine g_callVp (2, 0, h) [vI (nI i)] [vI (cntDL (habs σ h) i)] vl_RX1_124 mi_X1_isOpen (c_X1_isOpen l hH (nI i)) rfl rfl rfl rfl ⟨Nat.le_of_ble_eq_true rfl, Nat.le_of_ble_eq_true rfl⟩ rfl (Nat.le_of_ble_eq_true rfl) (by decide +kernel) ?_
      refine g_if_eq (off := 20) (tgt := 41) (by decide +kernel) (by decide) (fun zc21 => ?_) (fun zc21 => ?_)
      · refine g_blk (pc' := 42) (loc' := [some (vR (2, 0, h)), some (vI (cntDL (habs σ h) i)), some (vI (nI i))]) (st' := [vI (0 : Int32), vI (cntDL (habs σ h) i)]) (σ' := σ) fl1_ok [(41, .iconst 0)] (by decide +kernel) rfl rfl ?_
        refine g_callNp (idx := 104) [vI (0 : Int32)] [vI (cntDL (habs σ h) i)] (by decide +kernel) nl_X4_bit mi_X4_bit (c_X4_bit l (0 : Int32)) rfl ⟨Nat.le_of_ble_eq_true rfl, Nat.le_of_ble_eq_true rfl⟩ rfl (Nat.le_of_ble_eq_true rfl) (by decide +kernel) ?_
        refine g_blk (pc' := 4) (loc' := [some (vR (2, 0, h)), some (vI ((cntDL (habs σ h) i) + (bitS (0 : Int32)))), some (vI ((nI i) + (1 : Int32)))]) (st' := []) (σ' := σ) fl1_ok [(45, .iadd), (46, .istore_n 1), (47, .iinc 2 1), (50, .goto (-46))] (by decide +kernel) rfl rfl ?_
        have hstep : cntDL (habs σ h) (i + 1) = (cntDL (habs σ h) i) + (bitS (0 : Int32)) := by rw [cntDL, openDeepS, if_pos zc21]
        have hih := ih (i + 1) (by omega) (by omega)
        rw [hstep] at hih
        rw [nI_1]
        exact g_sub (loc' := [some (vR (2, 0, h)), some (vI ((cntDL (habs σ h) i) + (bitS (0 : Int32)))), some (vI (nI (i + 1)))]) ⟨Or.inr rfl, ⟨Or.inr rfl, ⟨Or.inr rfl, trivial⟩⟩⟩ hih
      · refine g_blk (pc' := 30) (loc' := [some (vR (2, 0, h)), some (vI (cntDL (habs σ h) i)), some (vI (nI i))]) (st' := [vI (4 : Int32), vI (nI i), vR (0, 2, h), vI (cntDL (habs σ h) i)]) (σ' := σ) fl1_ok [(24, .aload_n 0), (25, .getfield 23), (28, .iload_n 2), (29, .iconst 4)] (by decide +kernel) rfl rfl ?_
        refine g_callVp (0, 2, h) [vI (nI i), vI (4 : Int32)] [vI (cntDL (habs σ h) i)] vl_RX1_58 mi_X3_cell (ct_cell l hH 2 (by decide) (nI i) (4 : Int32)) rfl rfl rfl rfl ⟨Nat.le_of_ble_eq_true rfl, Nat.le_of_ble_eq_true rfl⟩ rfl (Nat.le_of_ble_eq_true rfl) (by decide +kernel) ?_
        refine g_blk (pc' := 34) (loc' := [some (vR (2, 0, h)), some (vI (cntDL (habs σ h) i)), some (vI (nI i))]) (st' := [vI (1 : Int32), vI (cl (habs σ h) 2 (nI i) (4 : Int32)), vI (cntDL (habs σ h) i)]) (σ' := σ) fl1_ok [(33, .iconst 1)] (by decide +kernel) rfl rfl ?_
        refine g_icmp_ne (off := 7) (tgt := 41) (by decide +kernel) (by decide) (fun zc34 => ?_) (fun zc34 => ?_)
        · refine g_blk (pc' := 42) (loc' := [some (vR (2, 0, h)), some (vI (cntDL (habs σ h) i)), some (vI (nI i))]) (st' := [vI (0 : Int32), vI (cntDL (habs σ h) i)]) (σ' := σ) fl1_ok [(41, .iconst 0)] (by decide +kernel) rfl rfl ?_
          refine g_callNp (idx := 104) [vI (0 : Int32)] [vI (cntDL (habs σ h) i)] (by decide +kernel) nl_X4_bit mi_X4_bit (c_X4_bit l (0 : Int32)) rfl ⟨Nat.le_of_ble_eq_true rfl, Nat.le_of_ble_eq_true rfl⟩ rfl (Nat.le_of_ble_eq_true rfl) (by decide +kernel) ?_
          refine g_blk (pc' := 4) (loc' := [some (vR (2, 0, h)), some (vI ((cntDL (habs σ h) i) + (bitS (0 : Int32)))), some (vI ((nI i) + (1 : Int32)))]) (st' := []) (σ' := σ) fl1_ok [(45, .iadd), (46, .istore_n 1), (47, .iinc 2 1), (50, .goto (-46))] (by decide +kernel) rfl rfl ?_
          have hstep : cntDL (habs σ h) (i + 1) = (cntDL (habs σ h) i) + (bitS (0 : Int32)) := by rw [cntDL, openDeepS, if_neg zc21, if_pos zc34]
          have hih := ih (i + 1) (by omega) (by omega)
          rw [hstep] at hih
          rw [nI_1]
          exact g_sub (loc' := [some (vR (2, 0, h)), some (vI ((cntDL (habs σ h) i) + (bitS (0 : Int32)))), some (vI (nI (i + 1)))]) ⟨Or.inr rfl, ⟨Or.inr rfl, ⟨Or.inr rfl, trivial⟩⟩⟩ hih
        · refine g_blk (pc' := 42) (loc' := [some (vR (2, 0, h)), some (vI (cntDL (habs σ h) i)), some (vI (nI i))]) (st' := [vI (1 : Int32), vI (cntDL (habs σ h) i)]) (σ' := σ) fl1_ok [(37, .iconst 1), (38, .goto 4)] (by decide +kernel) rfl rfl ?_
          refine g_callNp (idx := 104) [vI (1 : Int32)] [vI (cntDL (habs σ h) i)] (by decide +kernel) nl_X4_bit mi_X4_bit (c_X4_bit l (1 : Int32)) rfl ⟨Nat.le_of_ble_eq_true rfl, Nat.le_of_ble_eq_true rfl⟩ rfl (Nat.le_of_ble_eq_true rfl) (by decide +kernel) ?_
          refine g_blk (pc' := 4) (loc' := [some (vR (2, 0, h)), some (vI ((cntDL (habs σ h) i) + (bitS (1 : Int32)))), some (vI ((nI i) + (1 : Int32)))]) (st' := []) (σ' := σ) fl1_ok [(45, .iadd), (46, .istore_n 1), (47, .iinc 2 1), (50, .goto (-46))] (by decide +kernel) rfl rfl ?_
          have hstep : cntDL (habs σ h) (i + 1) = (cntDL (habs σ h) i) + (bitS (1 : Int32)) := by rw [cntDL, openDeepS, if_neg zc21, if_neg (not_not_intro zc34)]
          have hih := ih (i + 1) (by omega) (by omega)
          rw [hstep] at hih
          rw [nI_1]
          exact g_sub (loc' := [some (vR (2, 0, h)), some (vI ((cntDL (habs σ h) i) + (bitS (1 : Int32)))), some (vI (nI (i + 1)))]) ⟨Or.inr rfl, ⟨Or.inr rfl, ⟨Or.inr rfl, trivial⟩⟩⟩ hih
set_option maxHeartbeats 2000000 in
theorem c_X1_countOpenDeepTasks (l : Launch) {σ : Sg} {h : Nat} (hH : HOK σ h) : Con l 2 yX1_countOpenDeepTasks cX1_countOpenDeepTasks 3 (some .int) [vR (2, 0, h)] σ (pureP (cntDL (habs σ h) (sz (habs σ h) 2)) σ) := by
  refine con_of pn_X1_countOpenDeepTasks (Nat.le_of_ble_eq_true rfl) (fun hPK hok => ?_)
  show G l (Rm 2) RX1 cX1_countOpenDeepTasks 3 (some .int) _ 0 [some (vR (2, 0, h)), none, none] [] σ
  refine g_blk (pc' := 4) (loc' := [some (vR (2, 0, h)), some (vI (0 : Int32)), some (vI (0 : Int32))]) (st' := []) (σ' := σ) fl1_ok [(0, .iconst 0), (1, .istore_n 1), (2, .iconst 0), (3, .istore_n 2)] (by decide +kernel) rfl rfl ?_
  refine g_sub (loc' := [some (vR (2, 0, h)), some (vI (0 : Int32)), some (vI (0 : Int32))]) ⟨Or.inr rfl, ⟨Or.inr rfl, ⟨Or.inr rfl, trivial⟩⟩⟩ ?_
  exact lp_X1_countOpenDeepTasks l hH (sz (habs σ h) 2 + 1) 0 (Nat.zero_le _) (by omega)
set_option maxHeartbeats 2000000 in
theorem lp_X1_areaOfNextTask (l : Launch) {σ : Sg} {h : Nat} (hH : HOK σ h) (f : Int32) : ∀ (k i : Nat), i ≤ sz (habs σ h) 1 → sz (habs σ h) 1 < i + k → G l (Rm 3) RX1 cX1_areaOfNextTask 6 (some .int) (pureP (nextS (habs σ h) f) σ) 8 [some (vR (2, 0, h)), some (vI f), some (vI ((nextL (habs σ h) f i).1)), some (vI ((nextL (habs σ h) f i).2)), some (vI (nI i)), none] [] σ := by
  intro k
  induction k with
  | zero =>
    intro i  hi hk
    exact absurd hk (by omega)
  | succ k ih =>
    intro i  hi hk
    refine g_blk (pc' := 14) (loc' := [some (vR (2, 0, h)), some (vI f), some (vI ((nextL (habs σ h) f i).1)), some (vI ((nextL (habs σ h) f i).2)), some (vI (nI i)), none]) (st' := [vR (0, 1, h), vI (nI i)]) (σ' := σ) fl1_ok [(8, .iload 4), (10, .aload_n 0), (11, .getfield 20)] (by decide +kernel) rfl rfl ?_
    refine g_callVp (0, 1, h) [] [vI (nI i)] vl_RX1_66 mi_X3_size (ct_size l hH 1 (by decide)) rfl rfl rfl rfl ⟨Nat.le_of_ble_eq_true rfl, Nat.le_of_ble_eq_true rfl⟩ rfl (Nat.le_of_ble_eq_true rfl) (by decide +kernel) ?_
    refine g_icmp_ge (off := 38) (tgt := 55) (by decide +kernel) (by decide) (fun zc17 => ?_) (fun zc17 => ?_)
    · rw [nI_leI (by have := ha_N hH 1 (by decide); have := mst_le 1; omega) (by have := ha_N hH 1 (by decide); have := mst_le 1; omega)] at zc17
      have ei : i = (sz (habs σ h) 1) := by omega
      rw [ei]
      refine g_blk (pc' := 56) (loc' := [some (vR (2, 0, h)), some (vI f), some (vI ((nextL (habs σ h) f (sz (habs σ h) 1)).1)), some (vI ((nextL (habs σ h) f (sz (habs σ h) 1)).2)), some (vI (nI (sz (habs σ h) 1))), none]) (st' := [vI ((nextL (habs σ h) f (sz (habs σ h) 1)).1)]) (σ' := σ) fl1_ok [(55, .iload_n 2)] (by decide +kernel) rfl rfl ?_
      exact g_iret (by decide +kernel) (by exact ⟨rfl, rfl⟩)
    · rw [nI_leI (by have := ha_N hH 1 (by decide); have := mst_le 1; omega) (by have := ha_N hH 1 (by decide); have := mst_le 1; omega)] at zc17
      refine g_blk (pc' := 23) (loc' := [some (vR (2, 0, h)), some (vI f), some (vI ((nextL (habs σ h) f i).1)), some (vI ((nextL (habs σ h) f i).2)), some (vI (nI i)), none]) (st' := [vI (nI i), vR (2, 0, h)]) (σ' := σ) fl1_ok [(20, .aload_n 0), (21, .iload 4)] (by decide +kernel) rfl rfl ?_
      refine g_callVp (2, 0, h) [vI (nI i)] [] vl_RX1_90 mi_X1_effortOfTask (c_X1_effortOfTask l hH (nI i)) rfl rfl rfl rfl ⟨Nat.le_of_ble_eq_true rfl, Nat.le_of_ble_eq_true rfl⟩ rfl (Nat.le_of_ble_eq_true rfl) (by decide +kernel) ?_
      refine g_blk (pc' := 34) (loc' := [some (vR (2, 0, h)), some (vI f), some (vI ((nextL (habs σ h) f i).1)), some (vI ((nextL (habs σ h) f i).2)), some (vI (nI i)), some (vI (effS (habs σ h) (nI i)))]) (st' := [vI ((f >>> ((nI i) &&& 31)) &&& (1 : Int32))]) (σ' := σ) fl1_ok [(26, .istore 5), (28, .iload_n 1), (29, .iload 4), (31, .ishr), (32, .iconst 1), (33, .iand)] (by decide +kernel) rfl rfl ?_
      refine g_if_ne (off := 15) (tgt := 49) (by decide +kernel) (by decide) (fun zc34 => ?_) (fun zc34 => ?_)
      · refine g_blk (pc' := 8) (loc' := [some (vR (2, 0, h)), some (vI f), some (vI ((nextL (habs σ h) f i).1)), some (vI ((nextL (habs σ h) f i).2)), some (vI ((nI i) + (1 : Int32))), some (vI (effS (habs σ h) (nI i)))]) (st' := []) (σ' := σ) fl1_ok [(49, .iinc 4 1), (52, .goto (-44))] (by decide +kernel) rfl rfl ?_
        have hstep : nextL (habs σ h) f (i + 1) = ((nextL (habs σ h) f i).1, (nextL (habs σ h) f i).2) := by rw [nextL, if_pos zc34]
        have hih := ih (i + 1) (by omega) (by omega)
        rw [hstep] at hih
        rw [nI_1]
        exact g_sub (loc' := [some (vR (2, 0, h)), some (vI f), some (vI ((nextL (habs σ h) f i).1)), some (vI ((nextL (habs σ h) f i).2)), some (vI (nI (i + 1))), none]) ⟨Or.inr rfl, ⟨Or.inr rfl, ⟨Or.inr rfl, ⟨Or.inr rfl, ⟨Or.inr rfl, ⟨Or.inl rfl, trivial⟩⟩⟩⟩⟩⟩ hih
      · refine g_blk (pc' := 40) (loc' := [some (vR (2, 0, h)), some (vI f), some (vI ((nextL (habs σ h) f i).1)), some (vI ((nextL (habs σ h) f i).2)), some (vI (nI i)), some (vI (effS (habs σ h) (nI i)))]) (st' := [vI ((nextL (habs σ h) f i).2), vI (effS (habs σ h) (nI i))]) (σ' := σ) fl1_ok [(37, .iload 5), (39, .iload_n 3)] (by decide +kernel) rfl rfl ?_
        refine g_icmp_le (off := 9) (tgt := 49) (by decide +kernel) (by decide) (fun zc40 => ?_) (fun zc40 => ?_)
        · refine g_blk (pc' := 8) (loc' := [some (vR (2, 0, h)), some (vI f), some (vI ((nextL (habs σ h) f i).1)), some (vI ((nextL (habs σ h) f i).2)), some (vI ((nI i) + (1 : Int32))), some (vI (effS (habs σ h) (nI i)))]) (st' := []) (σ' := σ) fl1_ok [(49, .iinc 4 1), (52, .goto (-44))] (by decide +kernel) rfl rfl ?_
          have hstep : nextL (habs σ h) f (i + 1) = ((nextL (habs σ h) f i).1, (nextL (habs σ h) f i).2) := by rw [nextL, if_neg (not_not_intro zc34), if_pos zc40]
          have hih := ih (i + 1) (by omega) (by omega)
          rw [hstep] at hih
          rw [nI_1]
          exact g_sub (loc' := [some (vR (2, 0, h)), some (vI f), some (vI ((nextL (habs σ h) f i).1)), some (vI ((nextL (habs σ h) f i).2)), some (vI (nI (i + 1))), none]) ⟨Or.inr rfl, ⟨Or.inr rfl, ⟨Or.inr rfl, ⟨Or.inr rfl, ⟨Or.inr rfl, ⟨Or.inl rfl, trivial⟩⟩⟩⟩⟩⟩ hih
        · refine g_blk (pc' := 8) (loc' := [some (vR (2, 0, h)), some (vI f), some (vI (nI i)), some (vI (effS (habs σ h) (nI i))), some (vI ((nI i) + (1 : Int32))), some (vI (effS (habs σ h) (nI i)))]) (st' := []) (σ' := σ) fl1_ok [(43, .iload 4), (45, .istore_n 2), (46, .iload 5), (48, .istore_n 3), (49, .iinc 4 1), (52, .goto (-44))] (by decide +kernel) rfl rfl ?_
          have hstep : nextL (habs σ h) f (i + 1) = (nI i, effS (habs σ h) (nI i)) := by rw [nextL, if_neg (not_not_intro zc34), if_neg zc40]
          have hih := ih (i + 1) (by omega) (by omega)
          rw [hstep] at hih
          rw [nI_1]
          exact g_sub (loc' := [some (vR (2, 0, h)), some (vI f), some (vI (nI i)), some (vI (effS (habs σ h) (nI i))), some (vI (nI (i + 1))), none]) ⟨Or.inr rfl, ⟨Or.inr rfl, ⟨Or.inr rfl, ⟨Or.inr rfl, ⟨Or.inr rfl, ⟨Or.inl rfl, trivial⟩⟩⟩⟩⟩⟩ hih
set_option maxHeartbeats 2000000 in
theorem c_X1_areaOfNextTask (l : Launch) {σ : Sg} {h : Nat} (hH : HOK σ h) (f : Int32) : Con l 3 yX1_areaOfNextTask cX1_areaOfNextTask 6 (some .int) [vR (2, 0, h), vI f] σ (pureP (nextS (habs σ h) f) σ) := by
  refine con_of pn_X1_areaOfNextTask (Nat.le_of_ble_eq_true rfl) (fun hPK hok => ?_)
  show G l (Rm 3) RX1 cX1_areaOfNextTask 6 (some .int) _ 0 [some (vR (2, 0, h)), some (vI f), none, none, none, none] [] σ
  refine g_blk (pc' := 8) (loc' := [some (vR (2, 0, h)), some (vI f), some (vI (-6 : Int32)), some (vI (0 : Int32)), some (vI (0 : Int32)), none]) (st' := []) (σ' := σ) fl1_ok [(0, .bipush (-6)), (2, .istore_n 2), (3, .iconst 0), (4, .istore_n 3), (5, .iconst 0), (6, .istore 4)] (by decide +kernel) rfl rfl ?_
  refine g_sub (loc' := [some (vR (2, 0, h)), some (vI f), some (vI (-6 : Int32)), some (vI (0 : Int32)), some (vI (0 : Int32)), none]) ⟨Or.inr rfl, ⟨Or.inr rfl, ⟨Or.inr rfl, ⟨Or.inr rfl, ⟨Or.inr rfl, ⟨Or.inr rfl, trivial⟩⟩⟩⟩⟩⟩ ?_
  exact lp_X1_areaOfNextTask l hH f (sz (habs σ h) 1 + 1) 0 (Nat.zero_le _) (by omega)
set_option maxHeartbeats 2000000 in
theorem lp_X1_leastLoaded (l : Launch) {σ : Sg} {h : Nat} (hH : HOK σ h) (b : Int32) : ∀ (k i : Nat), i ≤ sz (habs σ h) 0 → sz (habs σ h) 0 < i + k → G l (Rm 3) RX1 cX1_leastLoaded 5 (some .int) (pureP (leastS (habs σ h) b) σ) 5 [some (vR (2, 0, h)), some (vI b), some (vI (leastL (habs σ h) b i)), some (vI (nI i)), none] [] σ := by
  intro k
  induction k with
  | zero =>
    intro i  hi hk
    exact absurd hk (by omega)
  | succ k ih =>
    intro i  hi hk
    refine g_blk (pc' := 10) (loc' := [some (vR (2, 0, h)), some (vI b), some (vI (leastL (habs σ h) b i)), some (vI (nI i)), none]) (st' := [vR (0, 0, h), vI (nI i)]) (σ' := σ) fl1_ok [(5, .iload_n 3), (6, .aload_n 0), (7, .getfield 16)] (by decide +kernel) rfl rfl ?_
    refine g_callVp (0, 0, h) [] [vI (nI i)] vl_RX1_66 mi_X3_size (ct_size l hH 0 (by decide)) rfl rfl rfl rfl ⟨Nat.le_of_ble_eq_true rfl, Nat.le_of_ble_eq_true rfl⟩ rfl (Nat.le_of_ble_eq_true rfl) (by decide +kernel) ?_
    refine g_icmp_ge (off := 51) (tgt := 64) (by decide +kernel) (by decide) (fun zc13 => ?_) (fun zc13 => ?_)
    · rw [nI_leI (by have := ha_N hH 0 (by decide); have := mst_le 0; omega) (by have := ha_N hH 0 (by decide); have := mst_le 0; omega)] at zc13
      have ei : i = (sz (habs σ h) 0) := by omega
      rw [ei]
      refine g_blk (pc' := 67) (loc' := [some (vR (2, 0, h)), some (vI b), some (vI (leastL (habs σ h) b (sz (habs σ h) 0))), some (vI (nI (sz (habs σ h) 0))), none]) (st' := [vI (-6 : Int32), vI (leastL (habs σ h) b (sz (habs σ h) 0))]) (σ' := σ) fl1_ok [(64, .iload_n 2), (65, .bipush (-6))] (by decide +kernel) rfl rfl ?_
      refine g_icmp_ne (off := 7) (tgt := 74) (by decide +kernel) (by decide) (fun zc67 => ?_) (fun zc67 => ?_)
      · refine g_blk (pc' := 75) (loc' := [some (vR (2, 0, h)), some (vI b), some (vI (leastL (habs σ h) b (sz (habs σ h) 0))), some (vI (nI (sz (habs σ h) 0))), none]) (st' := [vI (leastL (habs σ h) b (sz (habs σ h) 0))]) (σ' := σ) fl1_ok [(74, .iload_n 2)] (by decide +kernel) rfl rfl ?_
        exact g_iret (by decide +kernel) (by rw [leastS, if_pos zc67]; exact ⟨rfl, rfl⟩)
      · refine g_blk (pc' := 75) (loc' := [some (vR (2, 0, h)), some (vI b), some (vI (leastL (habs σ h) b (sz (habs σ h) 0))), some (vI (nI (sz (habs σ h) 0))), none]) (st' := [vI b]) (σ' := σ) fl1_ok [(70, .iload_n 1), (71, .goto 4)] (by decide +kernel) rfl rfl ?_
        exact g_iret (by decide +kernel) (by rw [leastS, if_neg (not_not_intro zc67)]; exact ⟨rfl, rfl⟩)
    · rw [nI_leI (by have := ha_N hH 0 (by decide); have := mst_le 0; omega) (by have := ha_N hH 0 (by decide); have := mst_le 0; omega)] at zc13
      refine g_blk (pc' := 18) (loc' := [some (vR (2, 0, h)), some (vI b), some (vI (leastL (habs σ h) b i)), some (vI (nI i)), none]) (st' := [vI b, vI (nI i)]) (σ' := σ) fl1_ok [(16, .iload_n 3), (17, .iload_n 1)] (by decide +kernel) rfl rfl ?_
      refine g_icmp_eq (off := 15) (tgt := 33) (by decide +kernel) (by decide) (fun zc18 => ?_) (fun zc18 => ?_)
      · refine g_blk (pc' := 38) (loc' := [some (vR (2, 0, h)), some (vI b), some (vI (leastL (habs σ h) b i)), some (vI (nI i)), some (vI (0 : Int32))]) (st' := [vI (0 : Int32)]) (σ' := σ) fl1_ok [(33, .iconst 0), (34, .istore 4), (36, .iload 4)] (by decide +kernel) rfl rfl ?_
        refine g_if_eq (off := 20) (tgt := 58) (by decide +kernel) (by decide) (fun zc38 => ?_) (fun zc38 => ?_)
        · refine g_blk (pc' := 5) (loc' := [some (vR (2, 0, h)), some (vI b), some (vI (leastL (habs σ h) b i)), some (vI ((nI i) + (1 : Int32))), some (vI (0 : Int32))]) (st' := []) (σ' := σ) fl1_ok [(58, .iinc 3 1), (61, .goto (-56))] (by decide +kernel) rfl rfl ?_
          have hstep : leastL (habs σ h) b (i + 1) = (leastL (habs σ h) b i) := by rw [leastL, freeS, if_pos zc18, if_pos zc38]
          have hih := ih (i + 1) (by omega) (by omega)
          rw [hstep] at hih
          rw [nI_1]
          exact g_sub (loc' := [some (vR (2, 0, h)), some (vI b), some (vI (leastL (habs σ h) b i)), some (vI (nI (i + 1))), none]) ⟨Or.inr rfl, ⟨Or.inr rfl, ⟨Or.inr rfl, ⟨Or.inr rfl, ⟨Or.inl rfl, trivial⟩⟩⟩⟩⟩ hih
        · exact absurd zc38 (by decide)
      · refine g_blk (pc' := 23) (loc' := [some (vR (2, 0, h)), some (vI b), some (vI (leastL (habs σ h) b i)), some (vI (nI i)), none]) (st' := [vI (nI i), vR (2, 0, h)]) (σ' := σ) fl1_ok [(21, .aload_n 0), (22, .iload_n 3)] (by decide +kernel) rfl rfl ?_
        refine g_callVp (2, 0, h) [vI (nI i)] [] vl_RX1_111 mi_X1_isAway (c_X1_isAway l hH (nI i)) rfl rfl rfl rfl ⟨Nat.le_of_ble_eq_true rfl, Nat.le_of_ble_eq_true rfl⟩ rfl (Nat.le_of_ble_eq_true rfl) (by decide +kernel) ?_
        refine g_if_ne (off := 7) (tgt := 33) (by decide +kernel) (by decide) (fun zc26 => ?_) (fun zc26 => ?_)
        · refine g_blk (pc' := 38) (loc' := [some (vR (2, 0, h)), some (vI b), some (vI (leastL (habs σ h) b i)), some (vI (nI i)), some (vI (0 : Int32))]) (st' := [vI (0 : Int32)]) (σ' := σ) fl1_ok [(33, .iconst 0), (34, .istore 4), (36, .iload 4)] (by decide +kernel) rfl rfl ?_
          refine g_if_eq (off := 20) (tgt := 58) (by decide +kernel) (by decide) (fun zc38 => ?_) (fun zc38 => ?_)
          · refine g_blk (pc' := 5) (loc' := [some (vR (2, 0, h)), some (vI b), some (vI (leastL (habs σ h) b i)), some (vI ((nI i) + (1 : Int32))), some (vI (0 : Int32))]) (st' := []) (σ' := σ) fl1_ok [(58, .iinc 3 1), (61, .goto (-56))] (by decide +kernel) rfl rfl ?_
            have hstep : leastL (habs σ h) b (i + 1) = (leastL (habs σ h) b i) := by rw [leastL, freeS, if_neg zc18, if_pos zc26, if_pos zc38]
            have hih := ih (i + 1) (by omega) (by omega)
            rw [hstep] at hih
            rw [nI_1]
            exact g_sub (loc' := [some (vR (2, 0, h)), some (vI b), some (vI (leastL (habs σ h) b i)), some (vI (nI (i + 1))), none]) ⟨Or.inr rfl, ⟨Or.inr rfl, ⟨Or.inr rfl, ⟨Or.inr rfl, ⟨Or.inl rfl, trivial⟩⟩⟩⟩⟩ hih
          · exact absurd zc38 (by decide)
        · refine g_blk (pc' := 38) (loc' := [some (vR (2, 0, h)), some (vI b), some (vI (leastL (habs σ h) b i)), some (vI (nI i)), some (vI (1 : Int32))]) (st' := [vI (1 : Int32)]) (σ' := σ) fl1_ok [(29, .iconst 1), (30, .goto 4), (34, .istore 4), (36, .iload 4)] (by decide +kernel) rfl rfl ?_
          refine g_if_eq (off := 20) (tgt := 58) (by decide +kernel) (by decide) (fun zc38 => ?_) (fun zc38 => ?_)
          · exact absurd zc38 (by decide)
          · refine g_blk (pc' := 44) (loc' := [some (vR (2, 0, h)), some (vI b), some (vI (leastL (habs σ h) b i)), some (vI (nI i)), some (vI (1 : Int32))]) (st' := [vI (-6 : Int32), vI (leastL (habs σ h) b i)]) (σ' := σ) fl1_ok [(41, .iload_n 2), (42, .bipush (-6))] (by decide +kernel) rfl rfl ?_
            refine g_icmp_eq (off := 12) (tgt := 56) (by decide +kernel) (by decide) (fun zc44 => ?_) (fun zc44 => ?_)
            · refine g_blk (pc' := 5) (loc' := [some (vR (2, 0, h)), some (vI b), some (vI (nI i)), some (vI ((nI i) + (1 : Int32))), some (vI (1 : Int32))]) (st' := []) (σ' := σ) fl1_ok [(56, .iload_n 3), (57, .istore_n 2), (58, .iinc 3 1), (61, .goto (-56))] (by decide +kernel) rfl rfl ?_
              have hstep : leastL (habs σ h) b (i + 1) = nI i := by rw [leastL, freeS, if_neg zc18, if_neg (not_not_intro zc26), if_neg zc38, if_pos zc44]
              have hih := ih (i + 1) (by omega) (by omega)
              rw [hstep] at hih
              rw [nI_1]
              exact g_sub (loc' := [some (vR (2, 0, h)), some (vI b), some (vI (nI i)), some (vI (nI (i + 1))), none]) ⟨Or.inr rfl, ⟨Or.inr rfl, ⟨Or.inr rfl, ⟨Or.inr rfl, ⟨Or.inl rfl, trivial⟩⟩⟩⟩⟩ hih
            · refine g_blk (pc' := 50) (loc' := [some (vR (2, 0, h)), some (vI b), some (vI (leastL (habs σ h) b i)), some (vI (nI i)), some (vI (1 : Int32))]) (st' := [vI (leastL (habs σ h) b i), vI (nI i), vR (2, 0, h)]) (σ' := σ) fl1_ok [(47, .aload_n 0), (48, .iload_n 3), (49, .iload_n 2)] (by decide +kernel) rfl rfl ?_
              refine g_callVp (2, 0, h) [vI (nI i), vI (leastL (habs σ h) b i)] [] vl_RX1_114 mi_X1_goesAhead (c_X1_goesAhead l hH (nI i) (leastL (habs σ h) b i)) rfl rfl rfl rfl ⟨Nat.le_of_ble_eq_true rfl, Nat.le_of_ble_eq_true rfl⟩ rfl (Nat.le_of_ble_eq_true rfl) (by decide +kernel) ?_
              refine g_if_eq (off := 5) (tgt := 58) (by decide +kernel) (by decide) (fun zc53 => ?_) (fun zc53 => ?_)
              · refine g_blk (pc' := 5) (loc' := [some (vR (2, 0, h)), some (vI b), some (vI (leastL (habs σ h) b i)), some (vI ((nI i) + (1 : Int32))), some (vI (1 : Int32))]) (st' := []) (σ' := σ) fl1_ok [(58, .iinc 3 1), (61, .goto (-56))] (by decide +kernel) rfl rfl ?_
                have hstep : leastL (habs σ h) b (i + 1) = (leastL (habs σ h) b i) := by rw [leastL, freeS, if_neg zc18, if_neg (not_not_intro zc26), if_neg zc38, if_neg zc44, if_pos zc53]
                have hih := ih (i + 1) (by omega) (by omega)
                rw [hstep] at hih
                rw [nI_1]
                exact g_sub (loc' := [some (vR (2, 0, h)), some (vI b), some (vI (leastL (habs σ h) b i)), some (vI (nI (i + 1))), none]) ⟨Or.inr rfl, ⟨Or.inr rfl, ⟨Or.inr rfl, ⟨Or.inr rfl, ⟨Or.inl rfl, trivial⟩⟩⟩⟩⟩ hih
              · refine g_blk (pc' := 5) (loc' := [some (vR (2, 0, h)), some (vI b), some (vI (nI i)), some (vI ((nI i) + (1 : Int32))), some (vI (1 : Int32))]) (st' := []) (σ' := σ) fl1_ok [(56, .iload_n 3), (57, .istore_n 2), (58, .iinc 3 1), (61, .goto (-56))] (by decide +kernel) rfl rfl ?_
                have hstep : leastL (habs σ h) b (i + 1) = nI i := by rw [leastL, freeS, if_neg zc18, if_neg (not_not_intro zc26), if_neg zc38, if_neg zc44, if_neg zc53]
                have hih := ih (i + 1) (by omega) (by omega)
                rw [hstep] at hih
                rw [nI_1]
                exact g_sub (loc' := [some (vR (2, 0, h)), some (vI b), some (vI (nI i)), some (vI (nI (i + 1))), none]) ⟨Or.inr rfl, ⟨Or.inr rfl, ⟨Or.inr rfl, ⟨Or.inr rfl, ⟨Or.inl rfl, trivial⟩⟩⟩⟩⟩ hih
set_option maxHeartbeats 2000000 in
theorem c_X1_leastLoaded (l : Launch) {σ : Sg} {h : Nat} (hH : HOK σ h) (b : Int32) : Con l 3 yX1_leastLoaded cX1_leastLoaded 5 (some .int) [vR (2, 0, h), vI b] σ (pureP (leastS (habs σ h) b) σ) := by
  refine con_of pn_X1_leastLoaded (Nat.le_of_ble_eq_true rfl) (fun hPK hok => ?_)
  show G l (Rm 3) RX1 cX1_leastLoaded 5 (some .int) _ 0 [some (vR (2, 0, h)), some (vI b), none, none, none] [] σ
  refine g_blk (pc' := 5) (loc' := [some (vR (2, 0, h)), some (vI b), some (vI (-6 : Int32)), some (vI (0 : Int32)), none]) (st' := []) (σ' := σ) fl1_ok [(0, .bipush (-6)), (2, .istore_n 2), (3, .iconst 0), (4, .istore_n 3)] (by decide +kernel) rfl rfl ?_
  refine g_sub (loc' := [some (vR (2, 0, h)), some (vI b), some (vI (-6 : Int32)), some (vI (0 : Int32)), none]) ⟨Or.inr rfl, ⟨Or.inr rfl, ⟨Or.inr rfl, ⟨Or.inr rfl, ⟨Or.inr rfl, trivial⟩⟩⟩⟩⟩ ?_
  exact lp_X1_leastLoaded l hH b (sz (habs σ h) 0 + 1) 0 (Nat.zero_le _) (by omega)
set_option maxHeartbeats 2000000 in
theorem lp_X1_spreadOf (l : Launch) {σ : Sg} {h : Nat} (hH : HOK σ h) (w g lo x : Int32) : ∀ (k i : Nat), i ≤ sz (habs σ h) 0 → sz (habs σ h) 0 < i + k → G l (Rm 2) RX1 cX1_spreadOf 11 (some .int) (pureP (spreadS (habs σ h) w g lo x) σ) 9 [some (vR (2, 0, h)), some (vI w), some (vI g), some (vI lo), some (vI x), some (vI ((spreadL (habs σ h) w g lo x i).1)), some (vI ((spreadL (habs σ h) w g lo x i).2)), some (vI (nI i)), none, none, none] [] σ := by
  intro k
  induction k with
  | zero =>
    intro i  hi hk
    exact absurd hk (by omega)
  | succ k ih =>
    intro i  hi hk
    refine g_blk (pc' := 15) (loc' := [some (vR (2, 0, h)), some (vI w), some (vI g), some (vI lo), some (vI x), some (vI ((spreadL (habs σ h) w g lo x i).1)), some (vI ((spreadL (habs σ h) w g lo x i).2)), some (vI (nI i)), none, none, none]) (st' := [vR (0, 0, h), vI (nI i)]) (σ' := σ) fl1_ok [(9, .iload 7), (11, .aload_n 0), (12, .getfield 16)] (by decide +kernel) rfl rfl ?_
    refine g_callVp (0, 0, h) [] [vI (nI i)] vl_RX1_66 mi_X3_size (ct_size l hH 0 (by decide)) rfl rfl rfl rfl ⟨Nat.le_of_ble_eq_true rfl, Nat.le_of_ble_eq_true rfl⟩ rfl (Nat.le_of_ble_eq_true rfl) (by decide +kernel) ?_
    refine g_icmp_ge (off := 101) (tgt := 119) (by decide +kernel) (by decide) (fun zc18 => ?_) (fun zc18 => ?_)
    · rw [nI_leI (by have := ha_N hH 0 (by decide); have := mst_le 0; omega) (by have := ha_N hH 0 (by decide); have := mst_le 0; omega)] at zc18
      have ei : i = (sz (habs σ h) 0) := by omega
      rw [ei]
      refine g_blk (pc' := 124) (loc' := [some (vR (2, 0, h)), some (vI w), some (vI g), some (vI lo), some (vI x), some (vI ((spreadL (habs σ h) w g lo x (sz (habs σ h) 0)).1)), some (vI ((spreadL (habs σ h) w g lo x (sz (habs σ h) 0)).2)), some (vI (nI (sz (habs σ h) 0))), none, none, none]) (st' := [vI (((spreadL (habs σ h) w g lo x (sz (habs σ h) 0)).2) - ((spreadL (habs σ h) w g lo x (sz (habs σ h) 0)).1))]) (σ' := σ) fl1_ok [(119, .iload 6), (121, .iload 5), (123, .isub)] (by decide +kernel) rfl rfl ?_
      exact g_iret (by decide +kernel) (by exact ⟨rfl, rfl⟩)
    · rw [nI_leI (by have := ha_N hH 0 (by decide); have := mst_le 0; omega) (by have := ha_N hH 0 (by decide); have := mst_le 0; omega)] at zc18
      refine g_blk (pc' := 22) (loc' := [some (vR (2, 0, h)), some (vI w), some (vI g), some (vI lo), some (vI x), some (vI ((spreadL (habs σ h) w g lo x i).1)), some (vI ((spreadL (habs σ h) w g lo x i).2)), some (vI (nI i)), none, none, none]) (st' := [vI w]) (σ' := σ) fl1_ok [(21, .iload_n 1)] (by decide +kernel) rfl rfl ?_
      refine g_if_eq (off := 12) (tgt := 34) (by decide +kernel) (by decide) (fun zc22 => ?_) (fun zc22 => ?_)
      · refine g_blk (pc' := 41) (loc' := [some (vR (2, 0, h)), some (vI w), some (vI g), some (vI lo), some (vI x), some (vI ((spreadL (habs σ h) w g lo x i).1)), some (vI ((spreadL (habs σ h) w g lo x i).2)), some (vI (nI i)), none, none, none]) (st' := [vI (3 : Int32), vI (nI i), vR (0, 0, h)]) (σ' := σ) fl1_ok [(34, .aload_n 0), (35, .getfield 16), (38, .iload 7), (40, .iconst 3)] (by decide +kernel) rfl rfl ?_
        refine g_callVp (0, 0, h) [vI (nI i), vI (3 : Int32)] [] vl_RX1_58 mi_X3_cell (ct_cell l hH 0 (by decide) (nI i) (3 : Int32)) rfl rfl rfl rfl ⟨Nat.le_of_ble_eq_true rfl, Nat.le_of_ble_eq_true rfl⟩ rfl (Nat.le_of_ble_eq_true rfl) (by decide +kernel) ?_
        refine g_blk (pc' := 49) (loc' := [some (vR (2, 0, h)), some (vI w), some (vI g), some (vI lo), some (vI x), some (vI ((spreadL (habs σ h) w g lo x i).1)), some (vI ((spreadL (habs σ h) w g lo x i).2)), some (vI (nI i)), some (vI (cl (habs σ h) 0 (nI i) (3 : Int32))), none, none]) (st' := [vI g, vI (nI i)]) (σ' := σ) fl1_ok [(44, .istore 8), (46, .iload 7), (48, .iload_n 2)] (by decide +kernel) rfl rfl ?_
        refine g_icmp_ne (off := 8) (tgt := 57) (by decide +kernel) (by decide) (fun zc49 => ?_) (fun zc49 => ?_)
        · refine g_blk (pc' := 60) (loc' := [some (vR (2, 0, h)), some (vI w), some (vI g), some (vI lo), some (vI x), some (vI ((spreadL (habs σ h) w g lo x i).1)), some (vI ((spreadL (habs σ h) w g lo x i).2)), some (vI (nI i)), some (vI (cl (habs σ h) 0 (nI i) (3 : Int32))), none, none]) (st' := [vI lo, vI (nI i)]) (σ' := σ) fl1_ok [(57, .iload 7), (59, .iload_n 3)] (by decide +kernel) rfl rfl ?_
          refine g_icmp_ne (off := 9) (tgt := 69) (by decide +kernel) (by decide) (fun zc60 => ?_) (fun zc60 => ?_)
          · refine g_blk (pc' := 80) (loc' := [some (vR (2, 0, h)), some (vI w), some (vI g), some (vI lo), some (vI x), some (vI ((spreadL (habs σ h) w g lo x i).1)), some (vI ((spreadL (habs σ h) w g lo x i).2)), some (vI (nI i)), some (vI (cl (habs σ h) 0 (nI i) (3 : Int32))), some (vI (0 : Int32)), none]) (st' := [vI ((cl (habs σ h) 0 (nI i) (3 : Int32)) + (0 : Int32)), vI (nI i), vR (2, 0, h)]) (σ' := σ) fl1_ok [(69, .iconst 0), (70, .istore 9), (72, .aload_n 0), (73, .iload 7), (75, .iload 8), (77, .iload 9), (79, .iadd)] (by decide +kernel) rfl rfl ?_
            refine g_callVp (2, 0, h) [vI (nI i), vI ((cl (habs σ h) 0 (nI i) (3 : Int32)) + (0 : Int32))] [] vl_RX1_174 mi_X1_rateOf (c_X1_rateOf l hH (nI i) ((cl (habs σ h) 0 (nI i) (3 : Int32)) + (0 : Int32))) rfl rfl rfl rfl ⟨Nat.le_of_ble_eq_true rfl, Nat.le_of_ble_eq_true rfl⟩ rfl (Nat.le_of_ble_eq_true rfl) (by decide +kernel) ?_
            refine g_blk (pc' := 87) (loc' := [some (vR (2, 0, h)), some (vI w), some (vI g), some (vI lo), some (vI x), some (vI ((spreadL (habs σ h) w g lo x i).1)), some (vI ((spreadL (habs σ h) w g lo x i).2)), some (vI (nI i)), some (vI (cl (habs σ h) 0 (nI i) (3 : Int32))), some (vI (0 : Int32)), some (vI (rateS (habs σ h) (nI i) ((cl (habs σ h) 0 (nI i) (3 : Int32)) + (0 : Int32))))]) (st' := [vI (nI i)]) (σ' := σ) fl1_ok [(83, .istore 10), (85, .iload 7)] (by decide +kernel) rfl rfl ?_
            refine g_if_ne (off := 8) (tgt := 95) (by decide +kernel) (by decide) (fun zc87 => ?_) (fun zc87 => ?_)
            · refine g_blk (pc' := 99) (loc' := [some (vR (2, 0, h)), some (vI w), some (vI g), some (vI lo), some (vI x), some (vI ((spreadL (habs σ h) w g lo x i).1)), some (vI ((spreadL (habs σ h) w g lo x i).2)), some (vI (nI i)), some (vI (cl (habs σ h) 0 (nI i) (3 : Int32))), some (vI (0 : Int32)), some (vI (rateS (habs σ h) (nI i) ((cl (habs σ h) 0 (nI i) (3 : Int32)) + (0 : Int32))))]) (st' := [vI (rateS (habs σ h) (nI i) ((cl (habs σ h) 0 (nI i) (3 : Int32)) + (0 : Int32))), vI ((spreadL (habs σ h) w g lo x i).1)]) (σ' := σ) fl1_ok [(95, .iload 5), (97, .iload 10)] (by decide +kernel) rfl rfl ?_
              refine g_min jl_RX1_146 ⟨Nat.le_of_ble_eq_true rfl, Nat.le_of_ble_eq_true rfl⟩ (by decide +kernel) ?_
              refine g_blk (pc' := 108) (loc' := [some (vR (2, 0, h)), some (vI w), some (vI g), some (vI lo), some (vI x), some (vI (if (rateS (habs σ h) (nI i) ((cl (habs σ h) 0 (nI i) (3 : Int32)) + (0 : Int32))) < ((spreadL (habs σ h) w g lo x i).1) then (rateS (habs σ h) (nI i) ((cl (habs σ h) 0 (nI i) (3 : Int32)) + (0 : Int32))) else ((spreadL (habs σ h) w g lo x i).1))), some (vI ((spreadL (habs σ h) w g lo x i).2)), some (vI (nI i)), some (vI (cl (habs σ h) 0 (nI i) (3 : Int32))), some (vI (0 : Int32)), some (vI (rateS (habs σ h) (nI i) ((cl (habs σ h) 0 (nI i) (3 : Int32)) + (0 : Int32))))]) (st' := [vI (rateS (habs σ h) (nI i) ((cl (habs σ h) 0 (nI i) (3 : Int32)) + (0 : Int32))), vI ((spreadL (habs σ h) w g lo x i).2)]) (σ' := σ) fl1_ok [(102, .istore 5), (104, .iload 6), (106, .iload 10)] (by decide +kernel) rfl rfl ?_
              refine g_max jl_RX1_69 ⟨Nat.le_of_ble_eq_true rfl, Nat.le_of_ble_eq_true rfl⟩ (by decide +kernel) ?_
              refine g_blk (pc' := 9) (loc' := [some (vR (2, 0, h)), some (vI w), some (vI g), some (vI lo), some (vI x), some (vI (if (rateS (habs σ h) (nI i) ((cl (habs σ h) 0 (nI i) (3 : Int32)) + (0 : Int32))) < ((spreadL (habs σ h) w g lo x i).1) then (rateS (habs σ h) (nI i) ((cl (habs σ h) 0 (nI i) (3 : Int32)) + (0 : Int32))) else ((spreadL (habs σ h) w g lo x i).1))), some (vI (if ((spreadL (habs σ h) w g lo x i).2) < (rateS (habs σ h) (nI i) ((cl (habs σ h) 0 (nI i) (3 : Int32)) + (0 : Int32))) then (rateS (habs σ h) (nI i) ((cl (habs σ h) 0 (nI i) (3 : Int32)) + (0 : Int32))) else ((spreadL (habs σ h) w g lo x i).2))), some (vI ((nI i) + (1 : Int32))), some (vI (cl (habs σ h) 0 (nI i) (3 : Int32))), some (vI (0 : Int32)), some (vI (rateS (habs σ h) (nI i) ((cl (habs σ h) 0 (nI i) (3 : Int32)) + (0 : Int32))))]) (st' := []) (σ' := σ) fl1_ok [(111, .istore 6), (113, .iinc 7 1), (116, .goto (-107))] (by decide +kernel) rfl rfl ?_
              have hstep : spreadL (habs σ h) w g lo x (i + 1) = (if (rateS (habs σ h) (nI i) ((cl (habs σ h) 0 (nI i) (3 : Int32)) + (0 : Int32))) < ((spreadL (habs σ h) w g lo x i).1) then (rateS (habs σ h) (nI i) ((cl (habs σ h) 0 (nI i) (3 : Int32)) + (0 : Int32))) else ((spreadL (habs σ h) w g lo x i).1), if ((spreadL (habs σ h) w g lo x i).2) < (rateS (habs σ h) (nI i) ((cl (habs σ h) 0 (nI i) (3 : Int32)) + (0 : Int32))) then (rateS (habs σ h) (nI i) ((cl (habs σ h) 0 (nI i) (3 : Int32)) + (0 : Int32))) else ((spreadL (habs σ h) w g lo x i).2)) := by rw [spreadL, spStep, amountS, if_pos zc22, if_pos zc49, if_pos zc60, if_pos zc87] <;> rfl
              have hih := ih (i + 1) (by omega) (by omega)
              rw [hstep] at hih
              rw [nI_1]
              exact g_sub (loc' := [some (vR (2, 0, h)), some (vI w), some (vI g), some (vI lo), some (vI x), some (vI (if (rateS (habs σ h) (nI i) ((cl (habs σ h) 0 (nI i) (3 : Int32)) + (0 : Int32))) < ((spreadL (habs σ h) w g lo x i).1) then (rateS (habs σ h) (nI i) ((cl (habs σ h) 0 (nI i) (3 : Int32)) + (0 : Int32))) else ((spreadL (habs σ h) w g lo x i).1))), some (vI (if ((spreadL (habs σ h) w g lo x i).2) < (rateS (habs σ h) (nI i) ((cl (habs σ h) 0 (nI i) (3 : Int32)) + (0 : Int32))) then (rateS (habs σ h) (nI i) ((cl (habs σ h) 0 (nI i) (3 : Int32)) + (0 : Int32))) else ((spreadL (habs σ h) w g lo x i).2))), some (vI (nI (i + 1))), none, none, none]) ⟨Or.inr rfl, ⟨Or.inr rfl, ⟨Or.inr rfl, ⟨Or.inr rfl, ⟨Or.inr rfl, ⟨Or.inr rfl, ⟨Or.inr rfl, ⟨Or.inr rfl, ⟨Or.inl rfl, ⟨Or.inl rfl, ⟨Or.inl rfl, trivial⟩⟩⟩⟩⟩⟩⟩⟩⟩⟩⟩ hih
            · refine g_blk (pc' := 108) (loc' := [some (vR (2, 0, h)), some (vI w), some (vI g), some (vI lo), some (vI x), some (vI (rateS (habs σ h) (nI i) ((cl (habs σ h) 0 (nI i) (3 : Int32)) + (0 : Int32)))), some (vI ((spreadL (habs σ h) w g lo x i).2)), some (vI (nI i)), some (vI (cl (habs σ h) 0 (nI i) (3 : Int32))), some (vI (0 : Int32)), some (vI (rateS (habs σ h) (nI i) ((cl (habs σ h) 0 (nI i) (3 : Int32)) + (0 : Int32))))]) (st' := [vI (rateS (habs σ h) (nI i) ((cl (habs σ h) 0 (nI i) (3 : Int32)) + (0 : Int32))), vI ((spreadL (habs σ h) w g lo x i).2)]) (σ' := σ) fl1_ok [(90, .iload 10), (92, .goto 10), (102, .istore 5), (104, .iload 6), (106, .iload 10)] (by decide +kernel) rfl rfl ?_
              refine g_max jl_RX1_69 ⟨Nat.le_of_ble_eq_true rfl, Nat.le_of_ble_eq_true rfl⟩ (by decide +kernel) ?_
              refine g_blk (pc' := 9) (loc' := [some (vR (2, 0, h)), some (vI w), some (vI g), some (vI lo), some (vI x), some (vI (rateS (habs σ h) (nI i) ((cl (habs σ h) 0 (nI i) (3 : Int32)) + (0 : Int32)))), some (vI (if ((spreadL (habs σ h) w g lo x i).2) < (rateS (habs σ h) (nI i) ((cl (habs σ h) 0 (nI i) (3 : Int32)) + (0 : Int32))) then (rateS (habs σ h) (nI i) ((cl (habs σ h) 0 (nI i) (3 : Int32)) + (0 : Int32))) else ((spreadL (habs σ h) w g lo x i).2))), some (vI ((nI i) + (1 : Int32))), some (vI (cl (habs σ h) 0 (nI i) (3 : Int32))), some (vI (0 : Int32)), some (vI (rateS (habs σ h) (nI i) ((cl (habs σ h) 0 (nI i) (3 : Int32)) + (0 : Int32))))]) (st' := []) (σ' := σ) fl1_ok [(111, .istore 6), (113, .iinc 7 1), (116, .goto (-107))] (by decide +kernel) rfl rfl ?_
              have hstep : spreadL (habs σ h) w g lo x (i + 1) = (rateS (habs σ h) (nI i) ((cl (habs σ h) 0 (nI i) (3 : Int32)) + (0 : Int32)), if ((spreadL (habs σ h) w g lo x i).2) < (rateS (habs σ h) (nI i) ((cl (habs σ h) 0 (nI i) (3 : Int32)) + (0 : Int32))) then (rateS (habs σ h) (nI i) ((cl (habs σ h) 0 (nI i) (3 : Int32)) + (0 : Int32))) else ((spreadL (habs σ h) w g lo x i).2)) := by rw [spreadL, spStep, amountS, if_pos zc22, if_pos zc49, if_pos zc60, if_neg (not_not_intro zc87)] <;> rfl
              have hih := ih (i + 1) (by omega) (by omega)
              rw [hstep] at hih
              rw [nI_1]
              exact g_sub (loc' := [some (vR (2, 0, h)), some (vI w), some (vI g), some (vI lo), some (vI x), some (vI (rateS (habs σ h) (nI i) ((cl (habs σ h) 0 (nI i) (3 : Int32)) + (0 : Int32)))), some (vI (if ((spreadL (habs σ h) w g lo x i).2) < (rateS (habs σ h) (nI i) ((cl (habs σ h) 0 (nI i) (3 : Int32)) + (0 : Int32))) then (rateS (habs σ h) (nI i) ((cl (habs σ h) 0 (nI i) (3 : Int32)) + (0 : Int32))) else ((spreadL (habs σ h) w g lo x i).2))), some (vI (nI (i + 1))), none, none, none]) ⟨Or.inr rfl, ⟨Or.inr rfl, ⟨Or.inr rfl, ⟨Or.inr rfl, ⟨Or.inr rfl, ⟨Or.inr rfl, ⟨Or.inr rfl, ⟨Or.inr rfl, ⟨Or.inl rfl, ⟨Or.inl rfl, ⟨Or.inl rfl, trivial⟩⟩⟩⟩⟩⟩⟩⟩⟩⟩⟩ hih
          · refine g_blk (pc' := 80) (loc' := [some (vR (2, 0, h)), some (vI w), some (vI g), some (vI lo), some (vI x), some (vI ((spreadL (habs σ h) w g lo x i).1)), some (vI ((spreadL (habs σ h) w g lo x i).2)), some (vI (nI i)), some (vI (cl (habs σ h) 0 (nI i) (3 : Int32))), some (vI (-x)), none]) (st' := [vI ((cl (habs σ h) 0 (nI i) (3 : Int32)) + (-x)), vI (nI i), vR (2, 0, h)]) (σ' := σ) fl1_ok [(63, .iload 4), (65, .ineg), (66, .goto 4), (70, .istore 9), (72, .aload_n 0), (73, .iload 7), (75, .iload 8), (77, .iload 9), (79, .iadd)] (by decide +kernel) rfl rfl ?_
            refine g_callVp (2, 0, h) [vI (nI i), vI ((cl (habs σ h) 0 (nI i) (3 : Int32)) + (-x))] [] vl_RX1_174 mi_X1_rateOf (c_X1_rateOf l hH (nI i) ((cl (habs σ h) 0 (nI i) (3 : Int32)) + (-x))) rfl rfl rfl rfl ⟨Nat.le_of_ble_eq_true rfl, Nat.le_of_ble_eq_true rfl⟩ rfl (Nat.le_of_ble_eq_true rfl) (by decide +kernel) ?_
            refine g_blk (pc' := 87) (loc' := [some (vR (2, 0, h)), some (vI w), some (vI g), some (vI lo), some (vI x), some (vI ((spreadL (habs σ h) w g lo x i).1)), some (vI ((spreadL (habs σ h) w g lo x i).2)), some (vI (nI i)), some (vI (cl (habs σ h) 0 (nI i) (3 : Int32))), some (vI (-x)), some (vI (rateS (habs σ h) (nI i) ((cl (habs σ h) 0 (nI i) (3 : Int32)) + (-x))))]) (st' := [vI (nI i)]) (σ' := σ) fl1_ok [(83, .istore 10), (85, .iload 7)] (by decide +kernel) rfl rfl ?_
            refine g_if_ne (off := 8) (tgt := 95) (by decide +kernel) (by decide) (fun zc87 => ?_) (fun zc87 => ?_)
            · refine g_blk (pc' := 99) (loc' := [some (vR (2, 0, h)), some (vI w), some (vI g), some (vI lo), some (vI x), some (vI ((spreadL (habs σ h) w g lo x i).1)), some (vI ((spreadL (habs σ h) w g lo x i).2)), some (vI (nI i)), some (vI (cl (habs σ h) 0 (nI i) (3 : Int32))), some (vI (-x)), some (vI (rateS (habs σ h) (nI i) ((cl (habs σ h) 0 (nI i) (3 : Int32)) + (-x))))]) (st' := [vI (rateS (habs σ h) (nI i) ((cl (habs σ h) 0 (nI i) (3 : Int32)) + (-x))), vI ((spreadL (habs σ h) w g lo x i).1)]) (σ' := σ) fl1_ok [(95, .iload 5), (97, .iload 10)] (by decide +kernel) rfl rfl ?_
              refine g_min jl_RX1_146 ⟨Nat.le_of_ble_eq_true rfl, Nat.le_of_ble_eq_true rfl⟩ (by decide +kernel) ?_
              refine g_blk (pc' := 108) (loc' := [some (vR (2, 0, h)), some (vI w), some (vI g), some (vI lo), some (vI x), some (vI (if (rateS (habs σ h) (nI i) ((cl (habs σ h) 0 (nI i) (3 : Int32)) + (-x))) < ((spreadL (habs σ h) w g lo x i).1) then (rateS (habs σ h) (nI i) ((cl (habs σ h) 0 (nI i) (3 : Int32)) + (-x))) else ((spreadL (habs σ h) w g lo x i).1))), some (vI ((spreadL (habs σ h) w g lo x i).2)), some (vI (nI i)), some (vI (cl (habs σ h) 0 (nI i) (3 : Int32))), some (vI (-x)), some (vI (rateS (habs σ h) (nI i) ((cl (habs σ h) 0 (nI i) (3 : Int32)) + (-x))))]) (st' := [vI (rateS (habs σ h) (nI i) ((cl (habs σ h) 0 (nI i) (3 : Int32)) + (-x))), vI ((spreadL (habs σ h) w g lo x i).2)]) (σ' := σ) fl1_ok [(102, .istore 5), (104, .iload 6), (106, .iload 10)] (by decide +kernel) rfl rfl ?_
              refine g_max jl_RX1_69 ⟨Nat.le_of_ble_eq_true rfl, Nat.le_of_ble_eq_true rfl⟩ (by decide +kernel) ?_
              refine g_blk (pc' := 9) (loc' := [some (vR (2, 0, h)), some (vI w), some (vI g), some (vI lo), some (vI x), some (vI (if (rateS (habs σ h) (nI i) ((cl (habs σ h) 0 (nI i) (3 : Int32)) + (-x))) < ((spreadL (habs σ h) w g lo x i).1) then (rateS (habs σ h) (nI i) ((cl (habs σ h) 0 (nI i) (3 : Int32)) + (-x))) else ((spreadL (habs σ h) w g lo x i).1))), some (vI (if ((spreadL (habs σ h) w g lo x i).2) < (rateS (habs σ h) (nI i) ((cl (habs σ h) 0 (nI i) (3 : Int32)) + (-x))) then (rateS (habs σ h) (nI i) ((cl (habs σ h) 0 (nI i) (3 : Int32)) + (-x))) else ((spreadL (habs σ h) w g lo x i).2))), some (vI ((nI i) + (1 : Int32))), some (vI (cl (habs σ h) 0 (nI i) (3 : Int32))), some (vI (-x)), some (vI (rateS (habs σ h) (nI i) ((cl (habs σ h) 0 (nI i) (3 : Int32)) + (-x))))]) (st' := []) (σ' := σ) fl1_ok [(111, .istore 6), (113, .iinc 7 1), (116, .goto (-107))] (by decide +kernel) rfl rfl ?_
              have hstep : spreadL (habs σ h) w g lo x (i + 1) = (if (rateS (habs σ h) (nI i) ((cl (habs σ h) 0 (nI i) (3 : Int32)) + (-x))) < ((spreadL (habs σ h) w g lo x i).1) then (rateS (habs σ h) (nI i) ((cl (habs σ h) 0 (nI i) (3 : Int32)) + (-x))) else ((spreadL (habs σ h) w g lo x i).1), if ((spreadL (habs σ h) w g lo x i).2) < (rateS (habs σ h) (nI i) ((cl (habs σ h) 0 (nI i) (3 : Int32)) + (-x))) then (rateS (habs σ h) (nI i) ((cl (habs σ h) 0 (nI i) (3 : Int32)) + (-x))) else ((spreadL (habs σ h) w g lo x i).2)) := by rw [spreadL, spStep, amountS, if_pos zc22, if_pos zc49, if_neg (not_not_intro zc60), if_pos zc87] <;> rfl
              have hih := ih (i + 1) (by omega) (by omega)
              rw [hstep] at hih
              rw [nI_1]
              exact g_sub (loc' := [some (vR (2, 0, h)), some (vI w), some (vI g), some (vI lo), some (vI x), some (vI (if (rateS (habs σ h) (nI i) ((cl (habs σ h) 0 (nI i) (3 : Int32)) + (-x))) < ((spreadL (habs σ h) w g lo x i).1) then (rateS (habs σ h) (nI i) ((cl (habs σ h) 0 (nI i) (3 : Int32)) + (-x))) else ((spreadL (habs σ h) w g lo x i).1))), some (vI (if ((spreadL (habs σ h) w g lo x i).2) < (rateS (habs σ h) (nI i) ((cl (habs σ h) 0 (nI i) (3 : Int32)) + (-x))) then (rateS (habs σ h) (nI i) ((cl (habs σ h) 0 (nI i) (3 : Int32)) + (-x))) else ((spreadL (habs σ h) w g lo x i).2))), some (vI (nI (i + 1))), none, none, none]) ⟨Or.inr rfl, ⟨Or.inr rfl, ⟨Or.inr rfl, ⟨Or.inr rfl, ⟨Or.inr rfl, ⟨Or.inr rfl, ⟨Or.inr rfl, ⟨Or.inr rfl, ⟨Or.inl rfl, ⟨Or.inl rfl, ⟨Or.inl rfl, trivial⟩⟩⟩⟩⟩⟩⟩⟩⟩⟩⟩ hih
            · refine g_blk (pc' := 108) (loc' := [some (vR (2, 0, h)), some (vI w), some (vI g), some (vI lo), some (vI x), some (vI (rateS (habs σ h) (nI i) ((cl (habs σ h) 0 (nI i) (3 : Int32)) + (-x)))), some (vI ((spreadL (habs σ h) w g lo x i).2)), some (vI (nI i)), some (vI (cl (habs σ h) 0 (nI i) (3 : Int32))), some (vI (-x)), some (vI (rateS (habs σ h) (nI i) ((cl (habs σ h) 0 (nI i) (3 : Int32)) + (-x))))]) (st' := [vI (rateS (habs σ h) (nI i) ((cl (habs σ h) 0 (nI i) (3 : Int32)) + (-x))), vI ((spreadL (habs σ h) w g lo x i).2)]) (σ' := σ) fl1_ok [(90, .iload 10), (92, .goto 10), (102, .istore 5), (104, .iload 6), (106, .iload 10)] (by decide +kernel) rfl rfl ?_
              refine g_max jl_RX1_69 ⟨Nat.le_of_ble_eq_true rfl, Nat.le_of_ble_eq_true rfl⟩ (by decide +kernel) ?_
              refine g_blk (pc' := 9) (loc' := [some (vR (2, 0, h)), some (vI w), some (vI g), some (vI lo), some (vI x), some (vI (rateS (habs σ h) (nI i) ((cl (habs σ h) 0 (nI i) (3 : Int32)) + (-x)))), some (vI (if ((spreadL (habs σ h) w g lo x i).2) < (rateS (habs σ h) (nI i) ((cl (habs σ h) 0 (nI i) (3 : Int32)) + (-x))) then (rateS (habs σ h) (nI i) ((cl (habs σ h) 0 (nI i) (3 : Int32)) + (-x))) else ((spreadL (habs σ h) w g lo x i).2))), some (vI ((nI i) + (1 : Int32))), some (vI (cl (habs σ h) 0 (nI i) (3 : Int32))), some (vI (-x)), some (vI (rateS (habs σ h) (nI i) ((cl (habs σ h) 0 (nI i) (3 : Int32)) + (-x))))]) (st' := []) (σ' := σ) fl1_ok [(111, .istore 6), (113, .iinc 7 1), (116, .goto (-107))] (by decide +kernel) rfl rfl ?_
              have hstep : spreadL (habs σ h) w g lo x (i + 1) = (rateS (habs σ h) (nI i) ((cl (habs σ h) 0 (nI i) (3 : Int32)) + (-x)), if ((spreadL (habs σ h) w g lo x i).2) < (rateS (habs σ h) (nI i) ((cl (habs σ h) 0 (nI i) (3 : Int32)) + (-x))) then (rateS (habs σ h) (nI i) ((cl (habs σ h) 0 (nI i) (3 : Int32)) + (-x))) else ((spreadL (habs σ h) w g lo x i).2)) := by rw [spreadL, spStep, amountS, if_pos zc22, if_pos zc49, if_neg (not_not_intro zc60), if_neg (not_not_intro zc87)] <;> rfl
              have hih := ih (i + 1) (by omega) (by omega)
              rw [hstep] at hih
              rw [nI_1]
              exact g_sub (loc' := [some (vR (2, 0, h)), some (vI w), some (vI g), some (vI lo), some (vI x), some (vI (rateS (habs σ h) (nI i) ((cl (habs σ h) 0 (nI i) (3 : Int32)) + (-x)))), some (vI (if ((spreadL (habs σ h) w g lo x i).2) < (rateS (habs σ h) (nI i) ((cl (habs σ h) 0 (nI i) (3 : Int32)) + (-x))) then (rateS (habs σ h) (nI i) ((cl (habs σ h) 0 (nI i) (3 : Int32)) + (-x))) else ((spreadL (habs σ h) w g lo x i).2))), some (vI (nI (i + 1))), none, none, none]) ⟨Or.inr rfl, ⟨Or.inr rfl, ⟨Or.inr rfl, ⟨Or.inr rfl, ⟨Or.inr rfl, ⟨Or.inr rfl, ⟨Or.inr rfl, ⟨Or.inr rfl, ⟨Or.inl rfl, ⟨Or.inl rfl, ⟨Or.inl rfl, trivial⟩⟩⟩⟩⟩⟩⟩⟩⟩⟩⟩ hih
        · refine g_blk (pc' := 80) (loc' := [some (vR (2, 0, h)), some (vI w), some (vI g), some (vI lo), some (vI x), some (vI ((spreadL (habs σ h) w g lo x i).1)), some (vI ((spreadL (habs σ h) w g lo x i).2)), some (vI (nI i)), some (vI (cl (habs σ h) 0 (nI i) (3 : Int32))), some (vI x), none]) (st' := [vI ((cl (habs σ h) 0 (nI i) (3 : Int32)) + x), vI (nI i), vR (2, 0, h)]) (σ' := σ) fl1_ok [(52, .iload 4), (54, .goto 16), (70, .istore 9), (72, .aload_n 0), (73, .iload 7), (75, .iload 8), (77, .iload 9), (79, .iadd)] (by decide +kernel) rfl rfl ?_
          refine g_callVp (2, 0, h) [vI (nI i), vI ((cl (habs σ h) 0 (nI i) (3 : Int32)) + x)] [] vl_RX1_174 mi_X1_rateOf (c_X1_rateOf l hH (nI i) ((cl (habs σ h) 0 (nI i) (3 : Int32)) + x)) rfl rfl rfl rfl ⟨Nat.le_of_ble_eq_true rfl, Nat.le_of_ble_eq_true rfl⟩ rfl (Nat.le_of_ble_eq_true rfl) (by decide +kernel) ?_
          refine g_blk (pc' := 87) (loc' := [some (vR (2, 0, h)), some (vI w), some (vI g), some (vI lo), some (vI x), some (vI ((spreadL (habs σ h) w g lo x i).1)), some (vI ((spreadL (habs σ h) w g lo x i).2)), some (vI (nI i)), some (vI (cl (habs σ h) 0 (nI i) (3 : Int32))), some (vI x), some (vI (rateS (habs σ h) (nI i) ((cl (habs σ h) 0 (nI i) (3 : Int32)) + x)))]) (st' := [vI (nI i)]) (σ' := σ) fl1_ok [(83, .istore 10), (85, .iload 7)] (by decide +kernel) rfl rfl ?_
          refine g_if_ne (off := 8) (tgt := 95) (by decide +kernel) (by decide) (fun zc87 => ?_) (fun zc87 => ?_)
          · refine g_blk (pc' := 99) (loc' := [some (vR (2, 0, h)), some (vI w), some (vI g), some (vI lo), some (vI x), some (vI ((spreadL (habs σ h) w g lo x i).1)), some (vI ((spreadL (habs σ h) w g lo x i).2)), some (vI (nI i)), some (vI (cl (habs σ h) 0 (nI i) (3 : Int32))), some (vI x), some (vI (rateS (habs σ h) (nI i) ((cl (habs σ h) 0 (nI i) (3 : Int32)) + x)))]) (st' := [vI (rateS (habs σ h) (nI i) ((cl (habs σ h) 0 (nI i) (3 : Int32)) + x)), vI ((spreadL (habs σ h) w g lo x i).1)]) (σ' := σ) fl1_ok [(95, .iload 5), (97, .iload 10)] (by decide +kernel) rfl rfl ?_
            refine g_min jl_RX1_146 ⟨Nat.le_of_ble_eq_true rfl, Nat.le_of_ble_eq_true rfl⟩ (by decide +kernel) ?_
            refine g_blk (pc' := 108) (loc' := [some (vR (2, 0, h)), some (vI w), some (vI g), some (vI lo), some (vI x), some (vI (if (rateS (habs σ h) (nI i) ((cl (habs σ h) 0 (nI i) (3 : Int32)) + x)) < ((spreadL (habs σ h) w g lo x i).1) then (rateS (habs σ h) (nI i) ((cl (habs σ h) 0 (nI i) (3 : Int32)) + x)) else ((spreadL (habs σ h) w g lo x i).1))), some (vI ((spreadL (habs σ h) w g lo x i).2)), some (vI (nI i)), some (vI (cl (habs σ h) 0 (nI i) (3 : Int32))), some (vI x), some (vI (rateS (habs σ h) (nI i) ((cl (habs σ h) 0 (nI i) (3 : Int32)) + x)))]) (st' := [vI (rateS (habs σ h) (nI i) ((cl (habs σ h) 0 (nI i) (3 : Int32)) + x)), vI ((spreadL (habs σ h) w g lo x i).2)]) (σ' := σ) fl1_ok [(102, .istore 5), (104, .iload 6), (106, .iload 10)] (by decide +kernel) rfl rfl ?_
            refine g_max jl_RX1_69 ⟨Nat.le_of_ble_eq_true rfl, Nat.le_of_ble_eq_true rfl⟩ (by decide +kernel) ?_
            refine g_blk (pc' := 9) (loc' := [some (vR (2, 0, h)), some (vI w), some (vI g), some (vI lo), some (vI x), some (vI (if (rateS (habs σ h) (nI i) ((cl (habs σ h) 0 (nI i) (3 : Int32)) + x)) < ((spreadL (habs σ h) w g lo x i).1) then (rateS (habs σ h) (nI i) ((cl (habs σ h) 0 (nI i) (3 : Int32)) + x)) else ((spreadL (habs σ h) w g lo x i).1))), some (vI (if ((spreadL (habs σ h) w g lo x i).2) < (rateS (habs σ h) (nI i) ((cl (habs σ h) 0 (nI i) (3 : Int32)) + x)) then (rateS (habs σ h) (nI i) ((cl (habs σ h) 0 (nI i) (3 : Int32)) + x)) else ((spreadL (habs σ h) w g lo x i).2))), some (vI ((nI i) + (1 : Int32))), some (vI (cl (habs σ h) 0 (nI i) (3 : Int32))), some (vI x), some (vI (rateS (habs σ h) (nI i) ((cl (habs σ h) 0 (nI i) (3 : Int32)) + x)))]) (st' := []) (σ' := σ) fl1_ok [(111, .istore 6), (113, .iinc 7 1), (116, .goto (-107))] (by decide +kernel) rfl rfl ?_
            have hstep : spreadL (habs σ h) w g lo x (i + 1) = (if (rateS (habs σ h) (nI i) ((cl (habs σ h) 0 (nI i) (3 : Int32)) + x)) < ((spreadL (habs σ h) w g lo x i).1) then (rateS (habs σ h) (nI i) ((cl (habs σ h) 0 (nI i) (3 : Int32)) + x)) else ((spreadL (habs σ h) w g lo x i).1), if ((spreadL (habs σ h) w g lo x i).2) < (rateS (habs σ h) (nI i) ((cl (habs σ h) 0 (nI i) (3 : Int32)) + x)) then (rateS (habs σ h) (nI i) ((cl (habs σ h) 0 (nI i) (3 : Int32)) + x)) else ((spreadL (habs σ h) w g lo x i).2)) := by rw [spreadL, spStep, amountS, if_pos zc22, if_neg (not_not_intro zc49), if_pos zc87] <;> rfl
            have hih := ih (i + 1) (by omega) (by omega)
            rw [hstep] at hih
            rw [nI_1]
            exact g_sub (loc' := [some (vR (2, 0, h)), some (vI w), some (vI g), some (vI lo), some (vI x), some (vI (if (rateS (habs σ h) (nI i) ((cl (habs σ h) 0 (nI i) (3 : Int32)) + x)) < ((spreadL (habs σ h) w g lo x i).1) then (rateS (habs σ h) (nI i) ((cl (habs σ h) 0 (nI i) (3 : Int32)) + x)) else ((spreadL (habs σ h) w g lo x i).1))), some (vI (if ((spreadL (habs σ h) w g lo x i).2) < (rateS (habs σ h) (nI i) ((cl (habs σ h) 0 (nI i) (3 : Int32)) + x)) then (rateS (habs σ h) (nI i) ((cl (habs σ h) 0 (nI i) (3 : Int32)) + x)) else ((spreadL (habs σ h) w g lo x i).2))), some (vI (nI (i + 1))), none, none, none]) ⟨Or.inr rfl, ⟨Or.inr rfl, ⟨Or.inr rfl, ⟨Or.inr rfl, ⟨Or.inr rfl, ⟨Or.inr rfl, ⟨Or.inr rfl, ⟨Or.inr rfl, ⟨Or.inl rfl, ⟨Or.inl rfl, ⟨Or.inl rfl, trivial⟩⟩⟩⟩⟩⟩⟩⟩⟩⟩⟩ hih
          · refine g_blk (pc' := 108) (loc' := [some (vR (2, 0, h)), some (vI w), some (vI g), some (vI lo), some (vI x), some (vI (rateS (habs σ h) (nI i) ((cl (habs σ h) 0 (nI i) (3 : Int32)) + x))), some (vI ((spreadL (habs σ h) w g lo x i).2)), some (vI (nI i)), some (vI (cl (habs σ h) 0 (nI i) (3 : Int32))), some (vI x), some (vI (rateS (habs σ h) (nI i) ((cl (habs σ h) 0 (nI i) (3 : Int32)) + x)))]) (st' := [vI (rateS (habs σ h) (nI i) ((cl (habs σ h) 0 (nI i) (3 : Int32)) + x)), vI ((spreadL (habs σ h) w g lo x i).2)]) (σ' := σ) fl1_ok [(90, .iload 10), (92, .goto 10), (102, .istore 5), (104, .iload 6), (106, .iload 10)] (by decide +kernel) rfl rfl ?_
            refine g_max jl_RX1_69 ⟨Nat.le_of_ble_eq_true rfl, Nat.le_of_ble_eq_true rfl⟩ (by decide +kernel) ?_
            refine g_blk (pc' := 9) (loc' := [some (vR (2, 0, h)), some (vI w), some (vI g), some (vI lo), some (vI x), some (vI (rateS (habs σ h) (nI i) ((cl (habs σ h) 0 (nI i) (3 : Int32)) + x))), some (vI (if ((spreadL (habs σ h) w g lo x i).2) < (rateS (habs σ h) (nI i) ((cl (habs σ h) 0 (nI i) (3 : Int32)) + x)) then (rateS (habs σ h) (nI i) ((cl (habs σ h) 0 (nI i) (3 : Int32)) + x)) else ((spreadL (habs σ h) w g lo x i).2))), some (vI ((nI i) + (1 : Int32))), some (vI (cl (habs σ h) 0 (nI i) (3 : Int32))), some (vI x), some (vI (rateS (habs σ h) (nI i) ((cl (habs σ h) 0 (nI i) (3 : Int32)) + x)))]) (st' := []) (σ' := σ) fl1_ok [(111, .istore 6), (113, .iinc 7 1), (116, .goto (-107))] (by decide +kernel) rfl rfl ?_
            have hstep : spreadL (habs σ h) w g lo x (i + 1) = (rateS (habs σ h) (nI i) ((cl (habs σ h) 0 (nI i) (3 : Int32)) + x), if ((spreadL (habs σ h) w g lo x i).2) < (rateS (habs σ h) (nI i) ((cl (habs σ h) 0 (nI i) (3 : Int32)) + x)) then (rateS (habs σ h) (nI i) ((cl (habs σ h) 0 (nI i) (3 : Int32)) + x)) else ((spreadL (habs σ h) w g lo x i).2)) := by rw [spreadL, spStep, amountS, if_pos zc22, if_neg (not_not_intro zc49), if_neg (not_not_intro zc87)] <;> rfl
            have hih := ih (i + 1) (by omega) (by omega)
            rw [hstep] at hih
            rw [nI_1]
            exact g_sub (loc' := [some (vR (2, 0, h)), some (vI w), some (vI g), some (vI lo), some (vI x), some (vI (rateS (habs σ h) (nI i) ((cl (habs σ h) 0 (nI i) (3 : Int32)) + x))), some (vI (if ((spreadL (habs σ h) w g lo x i).2) < (rateS (habs σ h) (nI i) ((cl (habs σ h) 0 (nI i) (3 : Int32)) + x)) then (rateS (habs σ h) (nI i) ((cl (habs σ h) 0 (nI i) (3 : Int32)) + x)) else ((spreadL (habs σ h) w g lo x i).2))), some (vI (nI (i + 1))), none, none, none]) ⟨Or.inr rfl, ⟨Or.inr rfl, ⟨Or.inr rfl, ⟨Or.inr rfl, ⟨Or.inr rfl, ⟨Or.inr rfl, ⟨Or.inr rfl, ⟨Or.inr rfl, ⟨Or.inl rfl, ⟨Or.inl rfl, ⟨Or.inl rfl, trivial⟩⟩⟩⟩⟩⟩⟩⟩⟩⟩⟩ hih
      · refine g_blk (pc' := 28) (loc' := [some (vR (2, 0, h)), some (vI w), some (vI g), some (vI lo), some (vI x), some (vI ((spreadL (habs σ h) w g lo x i).1)), some (vI ((spreadL (habs σ h) w g lo x i).2)), some (vI (nI i)), none, none, none]) (st' := [vI (nI i), vR (2, 0, h)]) (σ' := σ) fl1_ok [(25, .aload_n 0), (26, .iload 7)] (by decide +kernel) rfl rfl ?_
        refine g_callVp (2, 0, h) [vI (nI i)] [] vl_RX1_118 mi_X1_loadOf (c_X1_loadOf l hH (nI i)) rfl rfl rfl rfl ⟨Nat.le_of_ble_eq_true rfl, Nat.le_of_ble_eq_true rfl⟩ rfl (Nat.le_of_ble_eq_true rfl) (by decide +kernel) ?_
        refine g_blk (pc' := 49) (loc' := [some (vR (2, 0, h)), some (vI w), some (vI g), some (vI lo), some (vI x), some (vI ((spreadL (habs σ h) w g lo x i).1)), some (vI ((spreadL (habs σ h) w g lo x i).2)), some (vI (nI i)), some (vI (loadS (habs σ h) (nI i))), none, none]) (st' := [vI g, vI (nI i)]) (σ' := σ) fl1_ok [(31, .goto 13), (44, .istore 8), (46, .iload 7), (48, .iload_n 2)] (by decide +kernel) rfl rfl ?_
        refine g_icmp_ne (off := 8) (tgt := 57) (by decide +kernel) (by decide) (fun zc49 => ?_) (fun zc49 => ?_)
        · refine g_blk (pc' := 60) (loc' := [some (vR (2, 0, h)), some (vI w), some (vI g), some (vI lo), some (vI x), some (vI ((spreadL (habs σ h) w g lo x i).1)), some (vI ((spreadL (habs σ h) w g lo x i).2)), some (vI (nI i)), some (vI (loadS (habs σ h) (nI i))), none, none]) (st' := [vI lo, vI (nI i)]) (σ' := σ) fl1_ok [(57, .iload 7), (59, .iload_n 3)] (by decide +kernel) rfl rfl ?_
          refine g_icmp_ne (off := 9) (tgt := 69) (by decide +kernel) (by decide) (fun zc60 => ?_) (fun zc60 => ?_)
          · refine g_blk (pc' := 80) (loc' := [some (vR (2, 0, h)), some (vI w), some (vI g), some (vI lo), some (vI x), some (vI ((spreadL (habs σ h) w g lo x i).1)), some (vI ((spreadL (habs σ h) w g lo x i).2)), some (vI (nI i)), some (vI (loadS (habs σ h) (nI i))), some (vI (0 : Int32)), none]) (st' := [vI ((loadS (habs σ h) (nI i)) + (0 : Int32)), vI (nI i), vR (2, 0, h)]) (σ' := σ) fl1_ok [(69, .iconst 0), (70, .istore 9), (72, .aload_n 0), (73, .iload 7), (75, .iload 8), (77, .iload 9), (79, .iadd)] (by decide +kernel) rfl rfl ?_
            refine g_callVp (2, 0, h) [vI (nI i), vI ((loadS (habs σ h) (nI i)) + (0 : Int32))] [] vl_RX1_174 mi_X1_rateOf (c_X1_rateOf l hH (nI i) ((loadS (habs σ h) (nI i)) + (0 : Int32))) rfl rfl rfl rfl ⟨Nat.le_of_ble_eq_true rfl, Nat.le_of_ble_eq_true rfl⟩ rfl (Nat.le_of_ble_eq_true rfl) (by decide +kernel) ?_
            refine g_blk (pc' := 87) (loc' := [some (vR (2, 0, h)), some (vI w), some (vI g), some (vI lo), some (vI x), some (vI ((spreadL (habs σ h) w g lo x i).1)), some (vI ((spreadL (habs σ h) w g lo x i).2)), some (vI (nI i)), some (vI (loadS (habs σ h) (nI i))), some (vI (0 : Int32)), some (vI (rateS (habs σ h) (nI i) ((loadS (habs σ h) (nI i)) + (0 : Int32))))]) (st' := [vI (nI i)]) (σ' := σ) fl1_ok [(83, .istore 10), (85, .iload 7)] (by decide +kernel) rfl rfl ?_
            refine g_if_ne (off := 8) (tgt := 95) (by decide +kernel) (by decide) (fun zc87 => ?_) (fun zc87 => ?_)
            · refine g_blk (pc' := 99) (loc' := [some (vR (2, 0, h)), some (vI w), some (vI g), some (vI lo), some (vI x), some (vI ((spreadL (habs σ h) w g lo x i).1)), some (vI ((spreadL (habs σ h) w g lo x i).2)), some (vI (nI i)), some (vI (loadS (habs σ h) (nI i))), some (vI (0 : Int32)), some (vI (rateS (habs σ h) (nI i) ((loadS (habs σ h) (nI i)) + (0 : Int32))))]) (st' := [vI (rateS (habs σ h) (nI i) ((loadS (habs σ h) (nI i)) + (0 : Int32))), vI ((spreadL (habs σ h) w g lo x i).1)]) (σ' := σ) fl1_ok [(95, .iload 5), (97, .iload 10)] (by decide +kernel) rfl rfl ?_
              refine g_min jl_RX1_146 ⟨Nat.le_of_ble_eq_true rfl, Nat.le_of_ble_eq_true rfl⟩ (by decide +kernel) ?_
              refine g_blk (pc' := 108) (loc' := [some (vR (2, 0, h)), some (vI w), some (vI g), some (vI lo), some (vI x), some (vI (if (rateS (habs σ h) (nI i) ((loadS (habs σ h) (nI i)) + (0 : Int32))) < ((spreadL (habs σ h) w g lo x i).1) then (rateS (habs σ h) (nI i) ((loadS (habs σ h) (nI i)) + (0 : Int32))) else ((spreadL (habs σ h) w g lo x i).1))), some (vI ((spreadL (habs σ h) w g lo x i).2)), some (vI (nI i)), some (vI (loadS (habs σ h) (nI i))), some (vI (0 : Int32)), some (vI (rateS (habs σ h) (nI i) ((loadS (habs σ h) (nI i)) + (0 : Int32))))]) (st' := [vI (rateS (habs σ h) (nI i) ((loadS (habs σ h) (nI i)) + (0 : Int32))), vI ((spreadL (habs σ h) w g lo x i).2)]) (σ' := σ) fl1_ok [(102, .istore 5), (104, .iload 6), (106, .iload 10)] (by decide +kernel) rfl rfl ?_
              refine g_max jl_RX1_69 ⟨Nat.le_of_ble_eq_true rfl, Nat.le_of_ble_eq_true rfl⟩ (by decide +kernel) ?_
              refine g_blk (pc' := 9) (loc' := [some (vR (2, 0, h)), some (vI w), some (vI g), some (vI lo), some (vI x), some (vI (if (rateS (habs σ h) (nI i) ((loadS (habs σ h) (nI i)) + (0 : Int32))) < ((spreadL (habs σ h) w g lo x i).1) then (rateS (habs σ h) (nI i) ((loadS (habs σ h) (nI i)) + (0 : Int32))) else ((spreadL (habs σ h) w g lo x i).1))), some (vI (if ((spreadL (habs σ h) w g lo x i).2) < (rateS (habs σ h) (nI i) ((loadS (habs σ h) (nI i)) + (0 : Int32))) then (rateS (habs σ h) (nI i) ((loadS (habs σ h) (nI i)) + (0 : Int32))) else ((spreadL (habs σ h) w g lo x i).2))), some (vI ((nI i) + (1 : Int32))), some (vI (loadS (habs σ h) (nI i))), some (vI (0 : Int32)), some (vI (rateS (habs σ h) (nI i) ((loadS (habs σ h) (nI i)) + (0 : Int32))))]) (st' := []) (σ' := σ) fl1_ok [(111, .istore 6), (113, .iinc 7 1), (116, .goto (-107))] (by decide +kernel) rfl rfl ?_
              have hstep : spreadL (habs σ h) w g lo x (i + 1) = (if (rateS (habs σ h) (nI i) ((loadS (habs σ h) (nI i)) + (0 : Int32))) < ((spreadL (habs σ h) w g lo x i).1) then (rateS (habs σ h) (nI i) ((loadS (habs σ h) (nI i)) + (0 : Int32))) else ((spreadL (habs σ h) w g lo x i).1), if ((spreadL (habs σ h) w g lo x i).2) < (rateS (habs σ h) (nI i) ((loadS (habs σ h) (nI i)) + (0 : Int32))) then (rateS (habs σ h) (nI i) ((loadS (habs σ h) (nI i)) + (0 : Int32))) else ((spreadL (habs σ h) w g lo x i).2)) := by rw [spreadL, spStep, amountS, if_neg zc22, if_pos zc49, if_pos zc60, if_pos zc87] <;> rfl
              have hih := ih (i + 1) (by omega) (by omega)
              rw [hstep] at hih
              rw [nI_1]
              exact g_sub (loc' := [some (vR (2, 0, h)), some (vI w), some (vI g), some (vI lo), some (vI x), some (vI (if (rateS (habs σ h) (nI i) ((loadS (habs σ h) (nI i)) + (0 : Int32))) < ((spreadL (habs σ h) w g lo x i).1) then (rateS (habs σ h) (nI i) ((loadS (habs σ h) (nI i)) + (0 : Int32))) else ((spreadL (habs σ h) w g lo x i).1))), some (vI (if ((spreadL (habs σ h) w g lo x i).2) < (rateS (habs σ h) (nI i) ((loadS (habs σ h) (nI i)) + (0 : Int32))) then (rateS (habs σ h) (nI i) ((loadS (habs σ h) (nI i)) + (0 : Int32))) else ((spreadL (habs σ h) w g lo x i).2))), some (vI (nI (i + 1))), none, none, none]) ⟨Or.inr rfl, ⟨Or.inr rfl, ⟨Or.inr rfl, ⟨Or.inr rfl, ⟨Or.inr rfl, ⟨Or.inr rfl, ⟨Or.inr rfl, ⟨Or.inr rfl, ⟨Or.inl rfl, ⟨Or.inl rfl, ⟨Or.inl rfl, trivial⟩⟩⟩⟩⟩⟩⟩⟩⟩⟩⟩ hih
            · refine g_blk (pc' := 108) (loc' := [some (vR (2, 0, h)), some (vI w), some (vI g), some (vI lo), some (vI x), some (vI (rateS (habs σ h) (nI i) ((loadS (habs σ h) (nI i)) + (0 : Int32)))), some (vI ((spreadL (habs σ h) w g lo x i).2)), some (vI (nI i)), some (vI (loadS (habs σ h) (nI i))), some (vI (0 : Int32)), some (vI (rateS (habs σ h) (nI i) ((loadS (habs σ h) (nI i)) + (0 : Int32))))]) (st' := [vI (rateS (habs σ h) (nI i) ((loadS (habs σ h) (nI i)) + (0 : Int32))), vI ((spreadL (habs σ h) w g lo x i).2)]) (σ' := σ) fl1_ok [(90, .iload 10), (92, .goto 10), (102, .istore 5), (104, .iload 6), (106, .iload 10)] (by decide +kernel) rfl rfl ?_
              refine g_max jl_RX1_69 ⟨Nat.le_of_ble_eq_true rfl, Nat.le_of_ble_eq_true rfl⟩ (by decide +kernel) ?_
              refine g_blk (pc' := 9) (loc' := [some (vR (2, 0, h)), some (vI w), some (vI g), some (vI lo), some (vI x), some (vI (rateS (habs σ h) (nI i) ((loadS (habs σ h) (nI i)) + (0 : Int32)))), some (vI (if ((spreadL (habs σ h) w g lo x i).2) < (rateS (habs σ h) (nI i) ((loadS (habs σ h) (nI i)) + (0 : Int32))) then (rateS (habs σ h) (nI i) ((loadS (habs σ h) (nI i)) + (0 : Int32))) else ((spreadL (habs σ h) w g lo x i).2))), some (vI ((nI i) + (1 : Int32))), some (vI (loadS (habs σ h) (nI i))), some (vI (0 : Int32)), some (vI (rateS (habs σ h) (nI i) ((loadS (habs σ h) (nI i)) + (0 : Int32))))]) (st' := []) (σ' := σ) fl1_ok [(111, .istore 6), (113, .iinc 7 1), (116, .goto (-107))] (by decide +kernel) rfl rfl ?_
              have hstep : spreadL (habs σ h) w g lo x (i + 1) = (rateS (habs σ h) (nI i) ((loadS (habs σ h) (nI i)) + (0 : Int32)), if ((spreadL (habs σ h) w g lo x i).2) < (rateS (habs σ h) (nI i) ((loadS (habs σ h) (nI i)) + (0 : Int32))) then (rateS (habs σ h) (nI i) ((loadS (habs σ h) (nI i)) + (0 : Int32))) else ((spreadL (habs σ h) w g lo x i).2)) := by rw [spreadL, spStep, amountS, if_neg zc22, if_pos zc49, if_pos zc60, if_neg (not_not_intro zc87)] <;> rfl
              have hih := ih (i + 1) (by omega) (by omega)
              rw [hstep] at hih
              rw [nI_1]
              exact g_sub (loc' := [some (vR (2, 0, h)), some (vI w), some (vI g), some (vI lo), some (vI x), some (vI (rateS (habs σ h) (nI i) ((loadS (habs σ h) (nI i)) + (0 : Int32)))), some (vI (if ((spreadL (habs σ h) w g lo x i).2) < (rateS (habs σ h) (nI i) ((loadS (habs σ h) (nI i)) + (0 : Int32))) then (rateS (habs σ h) (nI i) ((loadS (habs σ h) (nI i)) + (0 : Int32))) else ((spreadL (habs σ h) w g lo x i).2))), some (vI (nI (i + 1))), none, none, none]) ⟨Or.inr rfl, ⟨Or.inr rfl, ⟨Or.inr rfl, ⟨Or.inr rfl, ⟨Or.inr rfl, ⟨Or.inr rfl, ⟨Or.inr rfl, ⟨Or.inr rfl, ⟨Or.inl rfl, ⟨Or.inl rfl, ⟨Or.inl rfl, trivial⟩⟩⟩⟩⟩⟩⟩⟩⟩⟩⟩ hih
          · refine g_blk (pc' := 80) (loc' := [some (vR (2, 0, h)), some (vI w), some (vI g), some (vI lo), some (vI x), some (vI ((spreadL (habs σ h) w g lo x i).1)), some (vI ((spreadL (habs σ h) w g lo x i).2)), some (vI (nI i)), some (vI (loadS (habs σ h) (nI i))), some (vI (-x)), none]) (st' := [vI ((loadS (habs σ h) (nI i)) + (-x)), vI (nI i), vR (2, 0, h)]) (σ' := σ) fl1_ok [(63, .iload 4), (65, .ineg), (66, .goto 4), (70, .istore 9), (72, .aload_n 0), (73, .iload 7), (75, .iload 8), (77, .iload 9), (79, .iadd)] (by decide +kernel) rfl rfl ?_
            refine g_callVp (2, 0, h) [vI (nI i), vI ((loadS (habs σ h) (nI i)) + (-x))] [] vl_RX1_174 mi_X1_rateOf (c_X1_rateOf l hH (nI i) ((loadS (habs σ h) (nI i)) + (-x))) rfl rfl rfl rfl ⟨Nat.le_of_ble_eq_true rfl, Nat.le_of_ble_eq_true rfl⟩ rfl (Nat.le_of_ble_eq_true rfl) (by decide +kernel) ?_
            refine g_blk (pc' := 87) (loc' := [some (vR (2, 0, h)), some (vI w), some (vI g), some (vI lo), some (vI x), some (vI ((spreadL (habs σ h) w g lo x i).1)), some (vI ((spreadL (habs σ h) w g lo x i).2)), some (vI (nI i)), some (vI (loadS (habs σ h) (nI i))), some (vI (-x)), some (vI (rateS (habs σ h) (nI i) ((loadS (habs σ h) (nI i)) + (-x))))]) (st' := [vI (nI i)]) (σ' := σ) fl1_ok [(83, .istore 10), (85, .iload 7)] (by decide +kernel) rfl rfl ?_
            refine g_if_ne (off := 8) (tgt := 95) (by decide +kernel) (by decide) (fun zc87 => ?_) (fun zc87 => ?_)
            · refine g_blk (pc' := 99) (loc' := [some (vR (2, 0, h)), some (vI w), some (vI g), some (vI lo), some (vI x), some (vI ((spreadL (habs σ h) w g lo x i).1)), some (vI ((spreadL (habs σ h) w g lo x i).2)), some (vI (nI i)), some (vI (loadS (habs σ h) (nI i))), some (vI (-x)), some (vI (rateS (habs σ h) (nI i) ((loadS (habs σ h) (nI i)) + (-x))))]) (st' := [vI (rateS (habs σ h) (nI i) ((loadS (habs σ h) (nI i)) + (-x))), vI ((spreadL (habs σ h) w g lo x i).1)]) (σ' := σ) fl1_ok [(95, .iload 5), (97, .iload 10)] (by decide +kernel) rfl rfl ?_
              refine g_min jl_RX1_146 ⟨Nat.le_of_ble_eq_true rfl, Nat.le_of_ble_eq_true rfl⟩ (by decide +kernel) ?_
              refine g_blk (pc' := 108) (loc' := [some (vR (2, 0, h)), some (vI w), some (vI g), some (vI lo), some (vI x), some (vI (if (rateS (habs σ h) (nI i) ((loadS (habs σ h) (nI i)) + (-x))) < ((spreadL (habs σ h) w g lo x i).1) then (rateS (habs σ h) (nI i) ((loadS (habs σ h) (nI i)) + (-x))) else ((spreadL (habs σ h) w g lo x i).1))), some (vI ((spreadL (habs σ h) w g lo x i).2)), some (vI (nI i)), some (vI (loadS (habs σ h) (nI i))), some (vI (-x)), some (vI (rateS (habs σ h) (nI i) ((loadS (habs σ h) (nI i)) + (-x))))]) (st' := [vI (rateS (habs σ h) (nI i) ((loadS (habs σ h) (nI i)) + (-x))), vI ((spreadL (habs σ h) w g lo x i).2)]) (σ' := σ) fl1_ok [(102, .istore 5), (104, .iload 6), (106, .iload 10)] (by decide +kernel) rfl rfl ?_
              refine g_max jl_RX1_69 ⟨Nat.le_of_ble_eq_true rfl, Nat.le_of_ble_eq_true rfl⟩ (by decide +kernel) ?_
              refine g_blk (pc' := 9) (loc' := [some (vR (2, 0, h)), some (vI w), some (vI g), some (vI lo), some (vI x), some (vI (if (rateS (habs σ h) (nI i) ((loadS (habs σ h) (nI i)) + (-x))) < ((spreadL (habs σ h) w g lo x i).1) then (rateS (habs σ h) (nI i) ((loadS (habs σ h) (nI i)) + (-x))) else ((spreadL (habs σ h) w g lo x i).1))), some (vI (if ((spreadL (habs σ h) w g lo x i).2) < (rateS (habs σ h) (nI i) ((loadS (habs σ h) (nI i)) + (-x))) then (rateS (habs σ h) (nI i) ((loadS (habs σ h) (nI i)) + (-x))) else ((spreadL (habs σ h) w g lo x i).2))), some (vI ((nI i) + (1 : Int32))), some (vI (loadS (habs σ h) (nI i))), some (vI (-x)), some (vI (rateS (habs σ h) (nI i) ((loadS (habs σ h) (nI i)) + (-x))))]) (st' := []) (σ' := σ) fl1_ok [(111, .istore 6), (113, .iinc 7 1), (116, .goto (-107))] (by decide +kernel) rfl rfl ?_
              have hstep : spreadL (habs σ h) w g lo x (i + 1) = (if (rateS (habs σ h) (nI i) ((loadS (habs σ h) (nI i)) + (-x))) < ((spreadL (habs σ h) w g lo x i).1) then (rateS (habs σ h) (nI i) ((loadS (habs σ h) (nI i)) + (-x))) else ((spreadL (habs σ h) w g lo x i).1), if ((spreadL (habs σ h) w g lo x i).2) < (rateS (habs σ h) (nI i) ((loadS (habs σ h) (nI i)) + (-x))) then (rateS (habs σ h) (nI i) ((loadS (habs σ h) (nI i)) + (-x))) else ((spreadL (habs σ h) w g lo x i).2)) := by rw [spreadL, spStep, amountS, if_neg zc22, if_pos zc49, if_neg (not_not_intro zc60), if_pos zc87] <;> rfl
              have hih := ih (i + 1) (by omega) (by omega)
              rw [hstep] at hih
              rw [nI_1]
              exact g_sub (loc' := [some (vR (2, 0, h)), some (vI w), some (vI g), some (vI lo), some (vI x), some (vI (if (rateS (habs σ h) (nI i) ((loadS (habs σ h) (nI i)) + (-x))) < ((spreadL (habs σ h) w g lo x i).1) then (rateS (habs σ h) (nI i) ((loadS (habs σ h) (nI i)) + (-x))) else ((spreadL (habs σ h) w g lo x i).1))), some (vI (if ((spreadL (habs σ h) w g lo x i).2) < (rateS (habs σ h) (nI i) ((loadS (habs σ h) (nI i)) + (-x))) then (rateS (habs σ h) (nI i) ((loadS (habs σ h) (nI i)) + (-x))) else ((spreadL (habs σ h) w g lo x i).2))), some (vI (nI (i + 1))), none, none, none]) ⟨Or.inr rfl, ⟨Or.inr rfl, ⟨Or.inr rfl, ⟨Or.inr rfl, ⟨Or.inr rfl, ⟨Or.inr rfl, ⟨Or.inr rfl, ⟨Or.inr rfl, ⟨Or.inl rfl, ⟨Or.inl rfl, ⟨Or.inl rfl, trivial⟩⟩⟩⟩⟩⟩⟩⟩⟩⟩⟩ hih
            · refine g_blk (pc' := 108) (loc' := [some (vR (2, 0, h)), some (vI w), some (vI g), some (vI lo), some (vI x), some (vI (rateS (habs σ h) (nI i) ((loadS (habs σ h) (nI i)) + (-x)))), some (vI ((spreadL (habs σ h) w g lo x i).2)), some (vI (nI i)), some (vI (loadS (habs σ h) (nI i))), some (vI (-x)), some (vI (rateS (habs σ h) (nI i) ((loadS (habs σ h) (nI i)) + (-x))))]) (st' := [vI (rateS (habs σ h) (nI i) ((loadS (habs σ h) (nI i)) + (-x))), vI ((spreadL (habs σ h) w g lo x i).2)]) (σ' := σ) fl1_ok [(90, .iload 10), (92, .goto 10), (102, .istore 5), (104, .iload 6), (106, .iload 10)] (by decide +kernel) rfl rfl ?_
              refine g_max jl_RX1_69 ⟨Nat.le_of_ble_eq_true rfl, Nat.le_of_ble_eq_true rfl⟩ (by decide +kernel) ?_
              refine g_blk (pc' := 9) (loc' := [some (vR (2, 0, h)), some (vI w), some (vI g), some (vI lo), some (vI x), some (vI (rateS (habs σ h) (nI i) ((loadS (habs σ h) (nI i)) + (-x)))), some (vI (if ((spreadL (habs σ h) w g lo x i).2) < (rateS (habs σ h) (nI i) ((loadS (habs σ h) (nI i)) + (-x))) then (rateS (habs σ h) (nI i) ((loadS (habs σ h) (nI i)) + (-x))) else ((spreadL (habs σ h) w g lo x i).2))), some (vI ((nI i) + (1 : Int32))), some (vI (loadS (habs σ h) (nI i))), some (vI (-x)), some (vI (rateS (habs σ h) (nI i) ((loadS (habs σ h) (nI i)) + (-x))))]) (st' := []) (σ' := σ) fl1_ok [(111, .istore 6), (113, .iinc 7 1), (116, .goto (-107))] (by decide +kernel) rfl rfl ?_
              have hstep : spreadL (habs σ h) w g lo x (i + 1) = (rateS (habs σ h) (nI i) ((loadS (habs σ h) (nI i)) + (-x)), if ((spreadL (habs σ h) w g lo x i).2) < (rateS (habs σ h) (nI i) ((loadS (habs σ h) (nI i)) + (-x))) then (rateS (habs σ h) (nI i) ((loadS (habs σ h) (nI i)) + (-x))) else ((spreadL (habs σ h) w g lo x i).2)) := by rw [spreadL, spStep, amountS, if_neg zc22, if_pos zc49, if_neg (not_not_intro zc60), if_neg (not_not_intro zc87)] <;> rfl
              have hih := ih (i + 1) (by omega) (by omega)
              rw [hstep] at hih
              rw [nI_1]
              exact g_sub (loc' := [some (vR (2, 0, h)), some (vI w), some (vI g), some (vI lo), some (vI x), some (vI (rateS (habs σ h) (nI i) ((loadS (habs σ h) (nI i)) + (-x)))), some (vI (if ((spreadL (habs σ h) w g lo x i).2) < (rateS (habs σ h) (nI i) ((loadS (habs σ h) (nI i)) + (-x))) then (rateS (habs σ h) (nI i) ((loadS (habs σ h) (nI i)) + (-x))) else ((spreadL (habs σ h) w g lo x i).2))), some (vI (nI (i + 1))), none, none, none]) ⟨Or.inr rfl, ⟨Or.inr rfl, ⟨Or.inr rfl, ⟨Or.inr rfl, ⟨Or.inr rfl, ⟨Or.inr rfl, ⟨Or.inr rfl, ⟨Or.inr rfl, ⟨Or.inl rfl, ⟨Or.inl rfl, ⟨Or.inl rfl, trivial⟩⟩⟩⟩⟩⟩⟩⟩⟩⟩⟩ hih
        · refine g_blk (pc' := 80) (loc' := [some (vR (2, 0, h)), some (vI w), some (vI g), some (vI lo), some (vI x), some (vI ((spreadL (habs σ h) w g lo x i).1)), some (vI ((spreadL (habs σ h) w g lo x i).2)), some (vI (nI i)), some (vI (loadS (habs σ h) (nI i))), some (vI x), none]) (st' := [vI ((loadS (habs σ h) (nI i)) + x), vI (nI i), vR (2, 0, h)]) (σ' := σ) fl1_ok [(52, .iload 4), (54, .goto 16), (70, .istore 9), (72, .aload_n 0), (73, .iload 7), (75, .iload 8), (77, .iload 9), (79, .iadd)] (by decide +kernel) rfl rfl ?_
          refine g_callVp (2, 0, h) [vI (nI i), vI ((loadS (habs σ h) (nI i)) + x)] [] vl_RX1_174 mi_X1_rateOf (c_X1_rateOf l hH (nI i) ((loadS (habs σ h) (nI i)) + x)) rfl rfl rfl rfl ⟨Nat.le_of_ble_eq_true rfl, Nat.le_of_ble_eq_true rfl⟩ rfl (Nat.le_of_ble_eq_true rfl) (by decide +kernel) ?_
          refine g_blk (pc' := 87) (loc' := [some (vR (2, 0, h)), some (vI w), some (vI g), some (vI lo), some (vI x), some (vI ((spreadL (habs σ h) w g lo x i).1)), some (vI ((spreadL (habs σ h) w g lo x i).2)), some (vI (nI i)), some (vI (loadS (habs σ h) (nI i))), some (vI x), some (vI (rateS (habs σ h) (nI i) ((loadS (habs σ h) (nI i)) + x)))]) (st' := [vI (nI i)]) (σ' := σ) fl1_ok [(83, .istore 10), (85, .iload 7)] (by decide +kernel) rfl rfl ?_
          refine g_if_ne (off := 8) (tgt := 95) (by decide +kernel) (by decide) (fun zc87 => ?_) (fun zc87 => ?_)
          · refine g_blk (pc' := 99) (loc' := [some (vR (2, 0, h)), some (vI w), some (vI g), some (vI lo), some (vI x), some (vI ((spreadL (habs σ h) w g lo x i).1)), some (vI ((spreadL (habs σ h) w g lo x i).2)), some (vI (nI i)), some (vI (loadS (habs σ h) (nI i))), some (vI x), some (vI (rateS (habs σ h) (nI i) ((loadS (habs σ h) (nI i)) + x)))]) (st' := [vI (rateS (habs σ h) (nI i) ((loadS (habs σ h) (nI i)) + x)), vI ((spreadL (habs σ h) w g lo x i).1)]) (σ' := σ) fl1_ok [(95, .iload 5), (97, .iload 10)] (by decide +kernel) rfl rfl ?_
            refine g_min jl_RX1_146 ⟨Nat.le_of_ble_eq_true rfl, Nat.le_of_ble_eq_true rfl⟩ (by decide +kernel) ?_
            refine g_blk (pc' := 108) (loc' := [some (vR (2, 0, h)), some (vI w), some (vI g), some (vI lo), some (vI x), some (vI (if (rateS (habs σ h) (nI i) ((loadS (habs σ h) (nI i)) + x)) < ((spreadL (habs σ h) w g lo x i).1) then (rateS (habs σ h) (nI i) ((loadS (habs σ h) (nI i)) + x)) else ((spreadL (habs σ h) w g lo x i).1))), some (vI ((spreadL (habs σ h) w g lo x i).2)), some (vI (nI i)), some (vI (loadS (habs σ h) (nI i))), some (vI x), some (vI (rateS (habs σ h) (nI i) ((loadS (habs σ h) (nI i)) + x)))]) (st' := [vI (rateS (habs σ h) (nI i) ((loadS (habs σ h) (nI i)) + x)), vI ((spreadL (habs σ h) w g lo x i).2)]) (σ' := σ) fl1_ok [(102, .istore 5), (104, .iload 6), (106, .iload 10)] (by decide +kernel) rfl rfl ?_
            refine g_max jl_RX1_69 ⟨Nat.le_of_ble_eq_true rfl, Nat.le_of_ble_eq_true rfl⟩ (by decide +kernel) ?_
            refine g_blk (pc' := 9) (loc' := [some (vR (2, 0, h)), some (vI w), some (vI g), some (vI lo), some (vI x), some (vI (if (rateS (habs σ h) (nI i) ((loadS (habs σ h) (nI i)) + x)) < ((spreadL (habs σ h) w g lo x i).1) then (rateS (habs σ h) (nI i) ((loadS (habs σ h) (nI i)) + x)) else ((spreadL (habs σ h) w g lo x i).1))), some (vI (if ((spreadL (habs σ h) w g lo x i).2) < (rateS (habs σ h) (nI i) ((loadS (habs σ h) (nI i)) + x)) then (rateS (habs σ h) (nI i) ((loadS (habs σ h) (nI i)) + x)) else ((spreadL (habs σ h) w g lo x i).2))), some (vI ((nI i) + (1 : Int32))), some (vI (loadS (habs σ h) (nI i))), some (vI x), some (vI (rateS (habs σ h) (nI i) ((loadS (habs σ h) (nI i)) + x)))]) (st' := []) (σ' := σ) fl1_ok [(111, .istore 6), (113, .iinc 7 1), (116, .goto (-107))] (by decide +kernel) rfl rfl ?_
            have hstep : spreadL (habs σ h) w g lo x (i + 1) = (if (rateS (habs σ h) (nI i) ((loadS (habs σ h) (nI i)) + x)) < ((spreadL (habs σ h) w g lo x i).1) then (rateS (habs σ h) (nI i) ((loadS (habs σ h) (nI i)) + x)) else ((spreadL (habs σ h) w g lo x i).1), if ((spreadL (habs σ h) w g lo x i).2) < (rateS (habs σ h) (nI i) ((loadS (habs σ h) (nI i)) + x)) then (rateS (habs σ h) (nI i) ((loadS (habs σ h) (nI i)) + x)) else ((spreadL (habs σ h) w g lo x i).2)) := by rw [spreadL, spStep, amountS, if_neg zc22, if_neg (not_not_intro zc49), if_pos zc87] <;> rfl
            have hih := ih (i + 1) (by omega) (by omega)
            rw [hstep] at hih
            rw [nI_1]
            exact g_sub (loc' := [some (vR (2, 0, h)), some (vI w), some (vI g), some (vI lo), some (vI x), some (vI (if (rateS (habs σ h) (nI i) ((loadS (habs σ h) (nI i)) + x)) < ((spreadL (habs σ h) w g lo x i).1) then (rateS (habs σ h) (nI i) ((loadS (habs σ h) (nI i)) + x)) else ((spreadL (habs σ h) w g lo x i).1))), some (vI (if ((spreadL (habs σ h) w g lo x i).2) < (rateS (habs σ h) (nI i) ((loadS (habs σ h) (nI i)) + x)) then (rateS (habs σ h) (nI i) ((loadS (habs σ h) (nI i)) + x)) else ((spreadL (habs σ h) w g lo x i).2))), some (vI (nI (i + 1))), none, none, none]) ⟨Or.inr rfl, ⟨Or.inr rfl, ⟨Or.inr rfl, ⟨Or.inr rfl, ⟨Or.inr rfl, ⟨Or.inr rfl, ⟨Or.inr rfl, ⟨Or.inr rfl, ⟨Or.inl rfl, ⟨Or.inl rfl, ⟨Or.inl rfl, trivial⟩⟩⟩⟩⟩⟩⟩⟩⟩⟩⟩ hih
          · refine g_blk (pc' := 108) (loc' := [some (vR (2, 0, h)), some (vI w), some (vI g), some (vI lo), some (vI x), some (vI (rateS (habs σ h) (nI i) ((loadS (habs σ h) (nI i)) + x))), some (vI ((spreadL (habs σ h) w g lo x i).2)), some (vI (nI i)), some (vI (loadS (habs σ h) (nI i))), some (vI x), some (vI (rateS (habs σ h) (nI i) ((loadS (habs σ h) (nI i)) + x)))]) (st' := [vI (rateS (habs σ h) (nI i) ((loadS (habs σ h) (nI i)) + x)), vI ((spreadL (habs σ h) w g lo x i).2)]) (σ' := σ) fl1_ok [(90, .iload 10), (92, .goto 10), (102, .istore 5), (104, .iload 6), (106, .iload 10)] (by decide +kernel) rfl rfl ?_
            refine g_max jl_RX1_69 ⟨Nat.le_of_ble_eq_true rfl, Nat.le_of_ble_eq_true rfl⟩ (by decide +kernel) ?_
            refine g_blk (pc' := 9) (loc' := [some (vR (2, 0, h)), some (vI w), some (vI g), some (vI lo), some (vI x), some (vI (rateS (habs σ h) (nI i) ((loadS (habs σ h) (nI i)) + x))), some (vI (if ((spreadL (habs σ h) w g lo x i).2) < (rateS (habs σ h) (nI i) ((loadS (habs σ h) (nI i)) + x)) then (rateS (habs σ h) (nI i) ((loadS (habs σ h) (nI i)) + x)) else ((spreadL (habs σ h) w g lo x i).2))), some (vI ((nI i) + (1 : Int32))), some (vI (loadS (habs σ h) (nI i))), some (vI x), some (vI (rateS (habs σ h) (nI i) ((loadS (habs σ h) (nI i)) + x)))]) (st' := []) (σ' := σ) fl1_ok [(111, .istore 6), (113, .iinc 7 1), (116, .goto (-107))] (by decide +kernel) rfl rfl ?_
            have hstep : spreadL (habs σ h) w g lo x (i + 1) = (rateS (habs σ h) (nI i) ((loadS (habs σ h) (nI i)) + x), if ((spreadL (habs σ h) w g lo x i).2) < (rateS (habs σ h) (nI i) ((loadS (habs σ h) (nI i)) + x)) then (rateS (habs σ h) (nI i) ((loadS (habs σ h) (nI i)) + x)) else ((spreadL (habs σ h) w g lo x i).2)) := by rw [spreadL, spStep, amountS, if_neg zc22, if_neg (not_not_intro zc49), if_neg (not_not_intro zc87)] <;> rfl
            have hih := ih (i + 1) (by omega) (by omega)
            rw [hstep] at hih
            rw [nI_1]
            exact g_sub (loc' := [some (vR (2, 0, h)), some (vI w), some (vI g), some (vI lo), some (vI x), some (vI (rateS (habs σ h) (nI i) ((loadS (habs σ h) (nI i)) + x))), some (vI (if ((spreadL (habs σ h) w g lo x i).2) < (rateS (habs σ h) (nI i) ((loadS (habs σ h) (nI i)) + x)) then (rateS (habs σ h) (nI i) ((loadS (habs σ h) (nI i)) + x)) else ((spreadL (habs σ h) w g lo x i).2))), some (vI (nI (i + 1))), none, none, none]) ⟨Or.inr rfl, ⟨Or.inr rfl, ⟨Or.inr rfl, ⟨Or.inr rfl, ⟨Or.inr rfl, ⟨Or.inr rfl, ⟨Or.inr rfl, ⟨Or.inr rfl, ⟨Or.inl rfl, ⟨Or.inl rfl, ⟨Or.inl rfl, trivial⟩⟩⟩⟩⟩⟩⟩⟩⟩⟩⟩ hih
set_option maxHeartbeats 2000000 in
theorem c_X1_spreadOf (l : Launch) {σ : Sg} {h : Nat} (hH : HOK σ h) (w g lo x : Int32) : Con l 2 yX1_spreadOf cX1_spreadOf 11 (some .int) [vR (2, 0, h), vI w, vI g, vI lo, vI x] σ (pureP (spreadS (habs σ h) w g lo x) σ) := by
  refine con_of pn_X1_spreadOf (Nat.le_of_ble_eq_true rfl) (fun hPK hok => ?_)
  show G l (Rm 2) RX1 cX1_spreadOf 11 (some .int) _ 0 [some (vR (2, 0, h)), some (vI w), some (vI g), some (vI lo), some (vI x), none, none, none, none, none, none] [] σ
  refine g_blk (pc' := 9) (loc' := [some (vR (2, 0, h)), some (vI w), some (vI g), some (vI lo), some (vI x), some (vI (0 : Int32)), some (vI (0 : Int32)), some (vI (0 : Int32)), none, none, none]) (st' := []) (σ' := σ) fl1_ok [(0, .iconst 0), (1, .istore 5), (3, .iconst 0), (4, .istore 6), (6, .iconst 0), (7, .istore 7)] (by decide +kernel) rfl rfl ?_
  refine g_sub (loc' := [some (vR (2, 0, h)), some (vI w), some (vI g), some (vI lo), some (vI x), some (vI (0 : Int32)), some (vI (0 : Int32)), some (vI (0 : Int32)), none, none, none]) ⟨Or.inr rfl, ⟨Or.inr rfl, ⟨Or.inr rfl, ⟨Or.inr rfl, ⟨Or.inr rfl, ⟨Or.inr rfl, ⟨Or.inr rfl, ⟨Or.inr rfl, ⟨Or.inr rfl, ⟨Or.inr rfl, ⟨Or.inr rfl, trivial⟩⟩⟩⟩⟩⟩⟩⟩⟩⟩⟩ ?_
  exact lp_X1_spreadOf l hH w g lo x (sz (habs σ h) 0 + 1) 0 (Nat.zero_le _) (by omega)
set_option maxHeartbeats 2000000 in
theorem c_X1_isTwinOpen (l : Launch) {σ : Sg} {h : Nat} (hH : HOK σ h) (t : Int32) : Con l 2 yX1_isTwinOpen cX1_isTwinOpen 2 (some .boolean) [vR (2, 0, h), vI t] σ (pureP (twinOpenS (habs σ h) t) σ) := by
  refine con_of pn_X1_isTwinOpen (Nat.le_of_ble_eq_true rfl) (fun hPK hok => ?_)
  show G l (Rm 2) RX1 cX1_isTwinOpen 2 (some .boolean) _ 0 [some (vR (2, 0, h)), some (vI t)] [] σ
  refine g_blk (pc' := 6) (loc' := [some (vR (2, 0, h)), some (vI t)]) (st' := [vI (4 : Int32), vI t, vR (0, 2, h)]) (σ' := σ) fl1_ok [(0, .aload_n 0), (1, .getfield 23), (4, .iload_n 1), (5, .iconst 4)] (by decide +kernel) rfl rfl ?_
  refine g_callVp (0, 2, h) [vI t, vI (4 : Int32)] [] vl_RX1_58 mi_X3_cell (ct_cell l hH 2 (by decide) t (4 : Int32)) rfl rfl rfl rfl ⟨Nat.le_of_ble_eq_true rfl, Nat.le_of_ble_eq_true rfl⟩ rfl (Nat.le_of_ble_eq_true rfl) (by decide +kernel) ?_
  refine g_if_ne (off := 5) (tgt := 14) (by decide +kernel) (by decide) (fun zc9 => ?_) (fun zc9 => ?_)
  · refine g_blk (pc' := 17) (loc' := [some (vR (2, 0, h)), some (vI t)]) (st' := [vI t, vR (2, 0, h), vR (2, 0, h)]) (σ' := σ) fl1_ok [(14, .aload_n 0), (15, .aload_n 0), (16, .iload_n 1)] (by decide +kernel) rfl rfl ?_
    refine g_callVp (2, 0, h) [vI t] [vR (2, 0, h)] vl_RX1_108 mi_X1_hasTwinAhead (c_X1_hasTwinAhead l hH t) rfl rfl rfl rfl ⟨Nat.le_of_ble_eq_true rfl, Nat.le_of_ble_eq_true rfl⟩ rfl (Nat.le_of_ble_eq_true rfl) (by decide +kernel) ?_
    refine g_if_eq (off := 9) (tgt := 29) (by decide +kernel) (by decide) (fun zc20 => ?_) (fun zc20 => ?_)
    · refine g_blk (pc' := 32) (loc' := [some (vR (2, 0, h)), some (vI t)]) (st' := [vI (t + (1 : Int32)), vR (2, 0, h)]) (σ' := σ) fl1_ok [(29, .iload_n 1), (30, .iconst 1), (31, .iadd)] (by decide +kernel) rfl rfl ?_
      refine g_callVp (2, 0, h) [vI (t + (1 : Int32))] [] vl_RX1_124 mi_X1_isOpen (c_X1_isOpen l hH (t + (1 : Int32))) rfl rfl rfl rfl ⟨Nat.le_of_ble_eq_true rfl, Nat.le_of_ble_eq_true rfl⟩ rfl (Nat.le_of_ble_eq_true rfl) (by decide +kernel) ?_
      exact g_zret (by decide +kernel) (openS_bit _ _) (by rw [twinOpenS, if_pos zc9, if_pos zc20]; exact ⟨rfl, rfl⟩)
    · refine g_blk (pc' := 32) (loc' := [some (vR (2, 0, h)), some (vI t)]) (st' := [vI (t - (1 : Int32)), vR (2, 0, h)]) (σ' := σ) fl1_ok [(23, .iload_n 1), (24, .iconst 1), (25, .isub), (26, .goto 6)] (by decide +kernel) rfl rfl ?_
      refine g_callVp (2, 0, h) [vI (t - (1 : Int32))] [] vl_RX1_124 mi_X1_isOpen (c_X1_isOpen l hH (t - (1 : Int32))) rfl rfl rfl rfl ⟨Nat.le_of_ble_eq_true rfl, Nat.le_of_ble_eq_true rfl⟩ rfl (Nat.le_of_ble_eq_true rfl) (by decide +kernel) ?_
      exact g_zret (by decide +kernel) (openS_bit _ _) (by rw [twinOpenS, if_pos zc9, if_neg zc20]; exact ⟨rfl, rfl⟩)
  · refine g_blk (pc' := 13) (loc' := [some (vR (2, 0, h)), some (vI t)]) (st' := [vI (0 : Int32)]) (σ' := σ) fl1_ok [(12, .iconst 0)] (by decide +kernel) rfl rfl ?_
    exact g_zret (by decide +kernel) (Or.inl rfl) (by rw [twinOpenS, if_neg (not_not_intro zc9)]; exact ⟨rfl, rfl⟩)
set_option maxHeartbeats 2000000 in
theorem c_X1_spread (l : Launch) {σ : Sg} {h : Nat} (hH : HOK σ h) : Con l 3 yX1_spread cX1_spread 1 (some .int) [vR (2, 0, h)] σ (pureP (spreadS (habs σ h) 0 (-6) (-6) 0) σ) := by
  refine con_of pn_X1_spread (Nat.le_of_ble_eq_true rfl) (fun hPK hok => ?_)
  show G l (Rm 3) RX1 cX1_spread 1 (some .int) _ 0 [some (vR (2, 0, h))] [] σ
  refine g_blk (pc' := 7) (loc' := [some (vR (2, 0, h))]) (st' := [vI (0 : Int32), vI (-6 : Int32), vI (-6 : Int32), vI (0 : Int32), vR (2, 0, h)]) (σ' := σ) fl1_ok [(0, .aload_n 0), (1, .iconst 0), (2, .bipush (-6)), (4, .bipush (-6)), (6, .iconst 0)] (by decide +kernel) rfl rfl ?_
  refine g_callVp (2, 0, h) [vI (0 : Int32), vI (-6 : Int32), vI (-6 : Int32), vI (0 : Int32)] [] vl_RX1_170 mi_X1_spreadOf (c_X1_spreadOf l hH (0 : Int32) (-6 : Int32) (-6 : Int32) (0 : Int32)) rfl rfl rfl rfl ⟨Nat.le_of_ble_eq_true rfl, Nat.le_of_ble_eq_true rfl⟩ rfl (Nat.le_of_ble_eq_true rfl) (by decide +kernel) ?_
  exact g_iret (by decide +kernel) (by exact ⟨rfl, rfl⟩)
set_option maxHeartbeats 2000000 in
theorem c_X1_plannedSpread (l : Launch) {σ : Sg} {h : Nat} (hH : HOK σ h) : Con l 3 yX1_plannedSpread cX1_plannedSpread 1 (some .int) [vR (2, 0, h)] σ (pureP (spreadS (habs σ h) 1 (-6) (-6) 0) σ) := by
  refine con_of pn_X1_plannedSpread (Nat.le_of_ble_eq_true rfl) (fun hPK hok => ?_)
  show G l (Rm 3) RX1 cX1_plannedSpread 1 (some .int) _ 0 [some (vR (2, 0, h))] [] σ
  refine g_blk (pc' := 7) (loc' := [some (vR (2, 0, h))]) (st' := [vI (0 : Int32), vI (-6 : Int32), vI (-6 : Int32), vI (1 : Int32), vR (2, 0, h)]) (σ' := σ) fl1_ok [(0, .aload_n 0), (1, .iconst 1), (2, .bipush (-6)), (4, .bipush (-6)), (6, .iconst 0)] (by decide +kernel) rfl rfl ?_
  refine g_callVp (2, 0, h) [vI (1 : Int32), vI (-6 : Int32), vI (-6 : Int32), vI (0 : Int32)] [] vl_RX1_170 mi_X1_spreadOf (c_X1_spreadOf l hH (1 : Int32) (-6 : Int32) (-6 : Int32) (0 : Int32)) rfl rfl rfl rfl ⟨Nat.le_of_ble_eq_true rfl, Nat.le_of_ble_eq_true rfl⟩ rfl (Nat.le_of_ble_eq_true rfl) (by decide +kernel) ?_
  exact g_iret (by decide +kernel) (by exact ⟨rfl, rfl⟩)
set_option maxHeartbeats 2000000 in
theorem c_X1_spreadIfExchanged (l : Launch) {σ : Sg} {h : Nat} (hH : HOK σ h) (a b : Int32) : Con l 3 yX1_spreadIfExchanged cX1_spreadIfExchanged 5 (some .int) [vR (2, 0, h), vI a, vI b] σ (pureP (spreadIfS (habs σ h) a b) σ) := by
  refine con_of pn_X1_spreadIfExchanged (Nat.le_of_ble_eq_true rfl) (fun hPK hok => ?_)
  show G l (Rm 3) RX1 cX1_spreadIfExchanged 5 (some .int) _ 0 [some (vR (2, 0, h)), some (vI a), some (vI b), none, none] [] σ
  refine g_blk (pc' := 6) (loc' := [some (vR (2, 0, h)), some (vI a), some (vI b), none, none]) (st' := [vI (1 : Int32), vI a, vR (0, 2, h)]) (σ' := σ) fl1_ok [(0, .aload_n 0), (1, .getfield 23), (4, .iload_n 1), (5, .iconst 1)] (by decide +kernel) rfl rfl ?_
  refine g_callVp (0, 2, h) [vI a, vI (1 : Int32)] [] vl_RX1_58 mi_X3_cell (ct_cell l hH 2 (by decide) a (1 : Int32)) rfl rfl rfl rfl ⟨Nat.le_of_ble_eq_true rfl, Nat.le_of_ble_eq_true rfl⟩ rfl (Nat.le_of_ble_eq_true rfl) (by decide +kernel) ?_
  refine g_blk (pc' := 16) (loc' := [some (vR (2, 0, h)), some (vI a), some (vI b), some (vI (cl (habs σ h) 2 a (1 : Int32))), none]) (st' := [vI (1 : Int32), vI b, vR (0, 2, h)]) (σ' := σ) fl1_ok [(9, .istore_n 3), (10, .aload_n 0), (11, .getfield 23), (14, .iload_n 2), (15, .iconst 1)] (by decide +kernel) rfl rfl ?_
  refine g_callVp (0, 2, h) [vI b, vI (1 : Int32)] [] vl_RX1_58 mi_X3_cell (ct_cell l hH 2 (by decide) b (1 : Int32)) rfl rfl rfl rfl ⟨Nat.le_of_ble_eq_true rfl, Nat.le_of_ble_eq_true rfl⟩ rfl (Nat.le_of_ble_eq_true rfl) (by decide +kernel) ?_
  refine g_blk (pc' := 29) (loc' := [some (vR (2, 0, h)), some (vI a), some (vI b), some (vI (cl (habs σ h) 2 a (1 : Int32))), some (vI (cl (habs σ h) 2 b (1 : Int32)))]) (st' := [vI b, vI a, vR (2, 0, h), vI (cl (habs σ h) 2 b (1 : Int32)), vI (cl (habs σ h) 2 a (1 : Int32)), vI (1 : Int32), vR (2, 0, h)]) (σ' := σ) fl1_ok [(19, .istore 4), (21, .aload_n 0), (22, .iconst 1), (23, .iload_n 3), (24, .iload 4), (26, .aload_n 0), (27, .iload_n 1), (28, .iload_n 2)] (by decide +kernel) rfl rfl ?_
  refine g_callVp (2, 0, h) [vI a, vI b] [vI (cl (habs σ h) 2 b (1 : Int32)), vI (cl (habs σ h) 2 a (1 : Int32)), vI (1 : Int32), vR (2, 0, h)] vl_RX1_167 mi_X1_gainOfExchange (c_X1_gainOfExchange l hH a b) rfl rfl rfl rfl ⟨Nat.le_of_ble_eq_true rfl, Nat.le_of_ble_eq_true rfl⟩ rfl (Nat.le_of_ble_eq_true rfl) (by decide +kernel) ?_
  refine g_callVp (2, 0, h) [vI (1 : Int32), vI (cl (habs σ h) 2 a (1 : Int32)), vI (cl (habs σ h) 2 b (1 : Int32)), vI (gainS (habs σ h) a b)] [] vl_RX1_170 mi_X1_spreadOf (c_X1_spreadOf l hH (1 : Int32) (cl (habs σ h) 2 a (1 : Int32)) (cl (habs σ h) 2 b (1 : Int32)) (gainS (habs σ h) a b)) rfl rfl rfl rfl ⟨Nat.le_of_ble_eq_true rfl, Nat.le_of_ble_eq_true rfl⟩ rfl (Nat.le_of_ble_eq_true rfl) (by decide +kernel) ?_
  exact g_iret (by decide +kernel) (by exact ⟨rfl, rfl⟩)
set_option maxHeartbeats 2000000 in
theorem lp_X1_firstOpenTaskOf (l : Launch) {σ : Sg} {h : Nat} (hH : HOK σ h) (r : Int32) : ∀ (k i : Nat), i + k = sz (habs σ h) 2 → G l (Rm 3) RX1 cX1_firstOpenTaskOf 3 (some .int) (pureP (firstF (habs σ h) r k i) σ) 2 [some (vR (2, 0, h)), some (vI r), some (vI (nI i))] [] σ := by
  intro k
  induction k with
  | zero =>
    intro i hk
    refine g_blk (pc' := 7) (loc' := [some (vR (2, 0, h)), some (vI r), some (vI (nI i))]) (st' := [vR (0, 2, h), vI (nI i)]) (σ' := σ) fl1_ok [(2, .iload_n 2), (3, .aload_n 0), (4, .getfield 23)] (by decide +kernel) rfl rfl ?_
    refine g_callVp (0, 2, h) [] [vI (nI i)] vl_RX1_66 mi_X3_size (ct_size l hH 2 (by decide)) rfl rfl rfl rfl ⟨Nat.le_of_ble_eq_true rfl, Nat.le_of_ble_eq_true rfl⟩ rfl (Nat.le_of_ble_eq_true rfl) (by decide +kernel) ?_
    refine g_icmp_ge (off := 20) (tgt := 30) (by decide +kernel) (by decide) (fun zc10 => ?_) (fun zc10 => ?_)
    · rw [nI_leI (by have := ha_N hH 2 (by decide); have := mst_le 2; omega) (by have := ha_N hH 2 (by decide); have := mst_le 2; omega)] at zc10
      refine g_blk (pc' := 32) (loc' := [some (vR (2, 0, h)), some (vI r), some (vI (nI i))]) (st' := [vI (-6 : Int32)]) (σ' := σ) fl1_ok [(30, .bipush (-6))] (by decide +kernel) rfl rfl ?_
      exact g_iret (by decide +kernel) ⟨by rw [firstF], rfl⟩
    · rw [nI_leI (by have := ha_N hH 2 (by decide); have := mst_le 2; omega) (by have := ha_N hH 2 (by decide); have := mst_le 2; omega)] at zc10
      exact absurd (by omega) zc10
  | succ k ih =>
    intro i hk
    refine g_blk (pc' := 7) (loc' := [some (vR (2, 0, h)), some (vI r), some (vI (nI i))]) (st' := [vR (0, 2, h), vI (nI i)]) (σ' := σ) fl1_ok [(2, .iload_n 2), (3, .aload_n 0), (4, .getfield 23)] (by decide +kernel) rfl rfl ?_
    refine g_callVp (0, 2, h) [] [vI (nI i)] vl_RX1_66 mi_X3_size (ct_size l hH 2 (by decide)) rfl rfl rfl rfl ⟨Nat.le_of_ble_eq_true rfl, Nat.le_of_ble_eq_true rfl⟩ rfl (Nat.le_of_ble_eq_true rfl) (by decide +kernel) ?_
    refine g_icmp_ge (off := 20) (tgt := 30) (by decide +kernel) (by decide) (fun zc10 => ?_) (fun zc10 => ?_)
    · rw [nI_leI (by have := ha_N hH 2 (by decide); have := mst_le 2; omega) (by have := ha_N hH 2 (by decide); have := mst_le 2; omega)] at zc10
      exact absurd zc10 (by omega)
    · rw [nI_leI (by have := ha_N hH 2 (by decide); have := mst_le 2; omega) (by have := ha_N hH 2 (by decide); have := mst_le 2; omega)] at zc10
      refine g_blk (pc' := 16) (loc' := [some (vR (2, 0, h)), some (vI r), some (vI (nI i))]) (st' := [vI r, vI (nI i), vR (2, 0, h)]) (σ' := σ) fl1_ok [(13, .aload_n 0), (14, .iload_n 2), (15, .iload_n 1)] (by decide +kernel) rfl rfl ?_
      refine g_callVp (2, 0, h) [vI (nI i), vI r] [] vl_RX1_127 mi_X1_isOpenTaskOf (c_X1_isOpenTaskOf l hH (nI i) r) rfl rfl rfl rfl ⟨Nat.le_of_ble_eq_true rfl, Nat.le_of_ble_eq_true rfl⟩ rfl (Nat.le_of_ble_eq_true rfl) (by decide +kernel) ?_
      refine g_if_eq (off := 5) (tgt := 24) (by decide +kernel) (by decide) (fun zc19 => ?_) (fun zc19 => ?_)
      · refine g_blk (pc' := 2) (loc' := [some (vR (2, 0, h)), some (vI r), some (vI ((nI i) + (1 : Int32)))]) (st' := []) (σ' := σ) fl1_ok [(24, .iinc 2 1), (27, .goto (-25))] (by decide +kernel) rfl rfl ?_
        have hstep : firstF (habs σ h) r (k + 1) i = firstF (habs σ h) r k (i + 1) := by rw [firstF, if_pos zc19]
        rw [hstep, nI_1]
        exact g_sub (loc' := [some (vR (2, 0, h)), some (vI r), some (vI (nI (i + 1)))]) ⟨Or.inr rfl, ⟨Or.inr rfl, ⟨Or.inr rfl, trivial⟩⟩⟩ (ih (i + 1) (by omega))
      · refine g_blk (pc' := 23) (loc' := [some (vR (2, 0, h)), some (vI r), some (vI (nI i))]) (st' := [vI (nI i)]) (σ' := σ) fl1_ok [(22, .iload_n 2)] (by decide +kernel) rfl rfl ?_
        exact g_iret (by decide +kernel) ⟨by rw [firstF, if_neg zc19], rfl⟩
set_option maxHeartbeats 2000000 in
theorem c_X1_firstOpenTaskOf (l : Launch) {σ : Sg} {h : Nat} (hH : HOK σ h) (r : Int32) : Con l 3 yX1_firstOpenTaskOf cX1_firstOpenTaskOf 3 (some .int) [vR (2, 0, h), vI r] σ (pureP (firstF (habs σ h) r (sz (habs σ h) 2) 0) σ) := by
  refine con_of pn_X1_firstOpenTaskOf (Nat.le_of_ble_eq_true rfl) (fun hPK hok => ?_)
  show G l (Rm 3) RX1 cX1_firstOpenTaskOf 3 (some .int) _ 0 [some (vR (2, 0, h)), some (vI r), none] [] σ
  refine g_blk (pc' := 2) (loc' := [some (vR (2, 0, h)), some (vI r), some (vI (0 : Int32))]) (st' := []) (σ' := σ) fl1_ok [(0, .iconst 0), (1, .istore_n 2)] (by decide +kernel) rfl rfl ?_
  exact lp_X1_firstOpenTaskOf l hH r (sz (habs σ h) 2) 0 (by omega)
set_option maxHeartbeats 2000000 in
theorem lp_X1_isProposed (l : Launch) {σ : Sg} {h : Nat} (hH : HOK σ h) (a b : Int32) : ∀ (k i : Nat), i + k = sz (habs σ h) 3 → G l (Rm 1) RX1 cX1_isProposed 4 (some .boolean) (pureP (propF (habs σ h) a b k i) σ) 2 [some (vR (2, 0, h)), some (vI a), some (vI b), some (vI (nI i))] [] σ := by
  intro k
  induction k with
  | zero =>
    intro i hk
    refine g_blk (pc' := 7) (loc' := [some (vR (2, 0, h)), some (vI a), some (vI b), some (vI (nI i))]) (st' := [vR (0, 3, h), vI (nI i)]) (σ' := σ) fl1_ok [(2, .iload_n 3), (3, .aload_n 0), (4, .getfield 26)] (by decide +kernel) rfl rfl ?_
    refine g_callVp (0, 3, h) [] [vI (nI i)] vl_RX1_66 mi_X3_size (ct_size l hH 3 (by decide)) rfl rfl rfl rfl ⟨Nat.le_of_ble_eq_true rfl, Nat.le_of_ble_eq_true rfl⟩ rfl (Nat.le_of_ble_eq_true rfl) (by decide +kernel) ?_
    refine g_icmp_ge (off := 37) (tgt := 47) (by decide +kernel) (by decide) (fun zc10 => ?_) (fun zc10 => ?_)
    · rw [nI_leI (by have := ha_N hH 3 (by decide); have := mst_le 3; omega) (by have := ha_N hH 3 (by decide); have := mst_le 3; omega)] at zc10
      refine g_blk (pc' := 48) (loc' := [some (vR (2, 0, h)), some (vI a), some (vI b), some (vI (nI i))]) (st' := [vI (0 : Int32)]) (σ' := σ) fl1_ok [(47, .iconst 0)] (by decide +kernel) rfl rfl ?_
      exact g_zret (by decide +kernel) (Or.inl rfl) ⟨by rw [propF], rfl⟩
    · rw [nI_leI (by have := ha_N hH 3 (by decide); have := mst_le 3; omega) (by have := ha_N hH 3 (by decide); have := mst_le 3; omega)] at zc10
      exact absurd (by omega) zc10
  | succ k ih =>
    intro i hk
    refine g_blk (pc' := 7) (loc' := [some (vR (2, 0, h)), some (vI a), some (vI b), some (vI (nI i))]) (st' := [vR (0, 3, h), vI (nI i)]) (σ' := σ) fl1_ok [(2, .iload_n 3), (3, .aload_n 0), (4, .getfield 26)] (by decide +kernel) rfl rfl ?_
    refine g_callVp (0, 3, h) [] [vI (nI i)] vl_RX1_66 mi_X3_size (ct_size l hH 3 (by decide)) rfl rfl rfl rfl ⟨Nat.le_of_ble_eq_true rfl, Nat.le_of_ble_eq_true rfl⟩ rfl (Nat.le_of_ble_eq_true rfl) (by decide +kernel) ?_
    refine g_icmp_ge (off := 37) (tgt := 47) (by decide +kernel) (by decide) (fun zc10 => ?_) (fun zc10 => ?_)
    · rw [nI_leI (by have := ha_N hH 3 (by decide); have := mst_le 3; omega) (by have := ha_N hH 3 (by decide); have := mst_le 3; omega)] at zc10
      exact absurd zc10 (by omega)
    · rw [nI_leI (by have := ha_N hH 3 (by decide); have := mst_le 3; omega) (by have := ha_N hH 3 (by decide); have := mst_le 3; omega)] at zc10
      refine g_blk (pc' := 19) (loc' := [some (vR (2, 0, h)), some (vI a), some (vI b), some (vI (nI i))]) (st' := [vI (0 : Int32), vI (nI i), vR (0, 3, h)]) (σ' := σ) fl1_ok [(13, .aload_n 0), (14, .getfield 26), (17, .iload_n 3), (18, .iconst 0)] (by decide +kernel) rfl rfl ?_
      refine g_callVp (0, 3, h) [vI (nI i), vI (0 : Int32)] [] vl_RX1_58 mi_X3_cell (ct_cell l hH 3 (by decide) (nI i) (0 : Int32)) rfl rfl rfl rfl ⟨Nat.le_of_ble_eq_true rfl, Nat.le_of_ble_eq_true rfl⟩ rfl (Nat.le_of_ble_eq_true rfl) (by decide +kernel) ?_
      refine g_blk (pc' := 23) (loc' := [some (vR (2, 0, h)), some (vI a), some (vI b), some (vI (nI i))]) (st' := [vI a, vI (cl (habs σ h) 3 (nI i) (0 : Int32))]) (σ' := σ) fl1_ok [(22, .iload_n 1)] (by decide +kernel) rfl rfl ?_
      refine g_icmp_ne (off := 18) (tgt := 41) (by decide +kernel) (by decide) (fun zc23 => ?_) (fun zc23 => ?_)
      · refine g_blk (pc' := 2) (loc' := [some (vR (2, 0, h)), some (vI a), some (vI b), some (vI ((nI i) + (1 : Int32)))]) (st' := []) (σ' := σ) fl1_ok [(41, .iinc 3 1), (44, .goto (-42))] (by decide +kernel) rfl rfl ?_
        have hstep : propF (habs σ h) a b (k + 1) i = propF (habs σ h) a b k (i + 1) := by rw [propF, if_pos zc23]
        rw [hstep, nI_1]
        exact g_sub (loc' := [some (vR (2, 0, h)), some (vI a), some (vI b), some (vI (nI (i + 1)))]) ⟨Or.inr rfl, ⟨Or.inr rfl, ⟨Or.inr rfl, ⟨Or.inr rfl, trivial⟩⟩⟩⟩ (ih (i + 1) (by omega))
      · refine g_blk (pc' := 32) (loc' := [some (vR (2, 0, h)), some (vI a), some (vI b), some (vI (nI i))]) (st' := [vI (1 : Int32), vI (nI i), vR (0, 3, h)]) (σ' := σ) fl1_ok [(26, .aload_n 0), (27, .getfield 26), (30, .iload_n 3), (31, .iconst 1)] (by decide +kernel) rfl rfl ?_
        refine g_callVp (0, 3, h) [vI (nI i), vI (1 : Int32)] [] vl_RX1_58 mi_X3_cell (ct_cell l hH 3 (by decide) (nI i) (1 : Int32)) rfl rfl rfl rfl ⟨Nat.le_of_ble_eq_true rfl, Nat.le_of_ble_eq_true rfl⟩ rfl (Nat.le_of_ble_eq_true rfl) (by decide +kernel) ?_
        refine g_blk (pc' := 36) (loc' := [some (vR (2, 0, h)), some (vI a), some (vI b), some (vI (nI i))]) (st' := [vI b, vI (cl (habs σ h) 3 (nI i) (1 : Int32))]) (σ' := σ) fl1_ok [(35, .iload_n 2)] (by decide +kernel) rfl rfl ?_
        refine g_icmp_ne (off := 5) (tgt := 41) (by decide +kernel) (by decide) (fun zc36 => ?_) (fun zc36 => ?_)
        · refine g_blk (pc' := 2) (loc' := [some (vR (2, 0, h)), some (vI a), some (vI b), some (vI ((nI i) + (1 : Int32)))]) (st' := []) (σ' := σ) fl1_ok [(41, .iinc 3 1), (44, .goto (-42))] (by decide +kernel) rfl rfl ?_
          have hstep : propF (habs σ h) a b (k + 1) i = propF (habs σ h) a b k (i + 1) := by rw [propF, if_neg (not_not_intro zc23), if_pos zc36]
          rw [hstep, nI_1]
          exact g_sub (loc' := [some (vR (2, 0, h)), some (vI a), some (vI b), some (vI (nI (i + 1)))]) ⟨Or.inr rfl, ⟨Or.inr rfl, ⟨Or.inr rfl, ⟨Or.inr rfl, trivial⟩⟩⟩⟩ (ih (i + 1) (by omega))
        · refine g_blk (pc' := 40) (loc' := [some (vR (2, 0, h)), some (vI a), some (vI b), some (vI (nI i))]) (st' := [vI (1 : Int32)]) (σ' := σ) fl1_ok [(39, .iconst 1)] (by decide +kernel) rfl rfl ?_
          exact g_zret (by decide +kernel) (Or.inr rfl) ⟨by rw [propF, if_neg (not_not_intro zc23), if_neg (not_not_intro zc36)], rfl⟩
set_option maxHeartbeats 2000000 in
theorem c_X1_isProposed (l : Launch) {σ : Sg} {h : Nat} (hH : HOK σ h) (a b : Int32) : Con l 1 yX1_isProposed cX1_isProposed 4 (some .boolean) [vR (2, 0, h), vI a, vI b] σ (pureP (propF (habs σ h) a b (sz (habs σ h) 3) 0) σ) := by
  refine con_of pn_X1_isProposed (Nat.le_of_ble_eq_true rfl) (fun hPK hok => ?_)
  show G l (Rm 1) RX1 cX1_isProposed 4 (some .boolean) _ 0 [some (vR (2, 0, h)), some (vI a), some (vI b), none] [] σ
  refine g_blk (pc' := 2) (loc' := [some (vR (2, 0, h)), some (vI a), some (vI b), some (vI (0 : Int32))]) (st' := []) (σ' := σ) fl1_ok [(0, .iconst 0), (1, .istore_n 3)] (by decide +kernel) rfl rfl ?_
  exact lp_X1_isProposed l hH a b (sz (habs σ h) 3) 0 (by omega)
