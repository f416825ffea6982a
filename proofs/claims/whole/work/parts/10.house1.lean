/-! HOUSE: readers (laid by wip/whole/mk11.py) -/
theorem isInS_bit (x a b : Int32) : isInS x a b = 0 ∨ isInS x a b = 1 := by
  rw [isInS]
  split
  · exact Or.inl rfl
  · split
    · exact Or.inl rfl
    · exact Or.inr rfl
set_option maxHeartbeats 2000000 in
theorem c_X4_isIn (l : Launch) {σ : Sg}  (x a b : Int32) : Con l 0 yX4_isIn cX4_isIn 3 (some .boolean) [vI x, vI a, vI b] σ (pureP (isInS x a b) σ) := by
  refine con_of pn_X4_isIn (Nat.le_of_ble_eq_true rfl) (fun hPK hok => ?_)
  show G l (Rm 0) RX4 cX4_isIn 3 (some .boolean) _ 0 [some (vI x), some (vI a), some (vI b)] [] σ
  refine g_blk (pc' := 2) (loc' := [some (vI x), some (vI a), some (vI b)]) (st' := [vI a, vI x]) (σ' := σ) fl4_ok [(0, .iload_n 0), (1, .iload_n 1)] (by decide +kernel) rfl rfl ?_
  refine g_icmp_lt (off := 12) (tgt := 14) (by decide +kernel) (by decide) (fun c2 => ?_) (fun c2 => ?_)
  · refine g_blk (pc' := 15) (loc' := [some (vI x), some (vI a), some (vI b)]) (st' := [vI (0 : Int32)]) (σ' := σ) fl4_ok [(14, .iconst 0)] (by decide +kernel) rfl rfl ?_
    exact g_zret (by decide +kernel) (Or.inl rfl) (by rw [isInS, if_pos c2]; exact ⟨rfl, rfl⟩)
  · refine g_blk (pc' := 7) (loc' := [some (vI x), some (vI a), some (vI b)]) (st' := [vI b, vI x]) (σ' := σ) fl4_ok [(5, .iload_n 0), (6, .iload_n 2)] (by decide +kernel) rfl rfl ?_
    refine g_icmp_gt (off := 7) (tgt := 14) (by decide +kernel) (by decide) (fun c7 => ?_) (fun c7 => ?_)
    · refine g_blk (pc' := 15) (loc' := [some (vI x), some (vI a), some (vI b)]) (st' := [vI (0 : Int32)]) (σ' := σ) fl4_ok [(14, .iconst 0)] (by decide +kernel) rfl rfl ?_
      exact g_zret (by decide +kernel) (Or.inl rfl) (by rw [isInS, if_neg c2, if_pos c7]; exact ⟨rfl, rfl⟩)
    · refine g_blk (pc' := 15) (loc' := [some (vI x), some (vI a), some (vI b)]) (st' := [vI (1 : Int32)]) (σ' := σ) fl4_ok [(10, .iconst 1), (11, .goto 4)] (by decide +kernel) rfl rfl ?_
      exact g_zret (by decide +kernel) (Or.inr rfl) (by rw [isInS, if_neg c2, if_neg c7]; exact ⟨rfl, rfl⟩)
set_option maxHeartbeats 2000000 in
theorem c_X4_bit (l : Launch) {σ : Sg}  (x : Int32) : Con l 0 yX4_bit cX4_bit 1 (some .int) [vI x] σ (pureP (bitS x) σ) := by
  refine con_of pn_X4_bit (Nat.le_of_ble_eq_true rfl) (fun hPK hok => ?_)
  show G l (Rm 0) RX4 cX4_bit 1 (some .int) _ 0 [some (vI x)] [] σ
  refine g_blk (pc' := 1) (loc' := [some (vI x)]) (st' := [vI x]) (σ' := σ) fl4_ok [(0, .iload_n 0)] (by decide +kernel) rfl rfl ?_
  refine g_if_eq (off := 7) (tgt := 8) (by decide +kernel) (by decide) (fun c1 => ?_) (fun c1 => ?_)
  · refine g_blk (pc' := 9) (loc' := [some (vI x)]) (st' := [vI (0 : Int32)]) (σ' := σ) fl4_ok [(8, .iconst 0)] (by decide +kernel) rfl rfl ?_
    exact g_iret (by decide +kernel) (by rw [bitS, if_pos c1]; exact ⟨rfl, rfl⟩)
  · refine g_blk (pc' := 9) (loc' := [some (vI x)]) (st' := [vI (1 : Int32)]) (σ' := σ) fl4_ok [(4, .iconst 1), (5, .goto 4)] (by decide +kernel) rfl rfl ?_
    exact g_iret (by decide +kernel) (by rw [bitS, if_neg c1]; exact ⟨rfl, rfl⟩)
set_option maxHeartbeats 2000000 in
theorem c_X1_isAway (l : Launch) {σ : Sg} {h : Nat} (hH : HOK σ h) (r : Int32) : Con l 1 yX1_isAway cX1_isAway 2 (some .boolean) [vR (2, 0, h), vI r] σ (pureP (awayS (habs σ h) r) σ) := by
  refine con_of pn_X1_isAway (Nat.le_of_ble_eq_true rfl) (fun hPK hok => ?_)
  show G l (Rm 1) RX1 cX1_isAway 2 (some .boolean) _ 0 [some (vR (2, 0, h)), some (vI r)] [] σ
  refine g_blk (pc' := 10) (loc' := [some (vR (2, 0, h)), some (vI r)]) (st' := [vI (1 : Int32), vI r, vR (0, 0, h), vI ((habs σ h).2 5)]) (σ' := σ) fl1_ok [(0, .aload_n 0), (1, .getfield 44), (4, .aload_n 0), (5, .getfield 16), (8, .iload_n 1), (9, .iconst 1)] (by decide +kernel) rfl rfl ?_
  refine g_callVp (0, 0, h) [vI r, vI (1 : Int32)] [vI ((habs σ h).2 5)] vl_RX1_58 mi_X3_cell (ct_cell l hH 0 (by decide) r (1 : Int32)) rfl rfl rfl rfl ⟨Nat.le_of_ble_eq_true rfl, Nat.le_of_ble_eq_true rfl⟩ rfl (Nat.le_of_ble_eq_true rfl) (by decide +kernel) ?_
  refine g_blk (pc' := 19) (loc' := [some (vR (2, 0, h)), some (vI r)]) (st' := [vI (2 : Int32), vI r, vR (0, 0, h), vI (cl (habs σ h) 0 r (1 : Int32)), vI ((habs σ h).2 5)]) (σ' := σ) fl1_ok [(13, .aload_n 0), (14, .getfield 16), (17, .iload_n 1), (18, .iconst 2)] (by decide +kernel) rfl rfl ?_
  refine g_callVp (0, 0, h) [vI r, vI (2 : Int32)] [vI (cl (habs σ h) 0 r (1 : Int32)), vI ((habs σ h).2 5)] vl_RX1_58 mi_X3_cell (ct_cell l hH 0 (by decide) r (2 : Int32)) rfl rfl rfl rfl ⟨Nat.le_of_ble_eq_true rfl, Nat.le_of_ble_eq_true rfl⟩ rfl (Nat.le_of_ble_eq_true rfl) (by decide +kernel) ?_
  refine g_callNp (idx := 62) [vI ((habs σ h).2 5), vI (cl (habs σ h) 0 r (1 : Int32)), vI (cl (habs σ h) 0 r (2 : Int32))] [] (by decide +kernel) nl_X4_isIn mi_X4_isIn (c_X4_isIn l ((habs σ h).2 5) (cl (habs σ h) 0 r (1 : Int32)) (cl (habs σ h) 0 r (2 : Int32))) rfl ⟨Nat.le_of_ble_eq_true rfl, Nat.le_of_ble_eq_true rfl⟩ rfl (Nat.le_of_ble_eq_true rfl) (by decide +kernel) ?_
  exact g_zret (by decide +kernel) (isInS_bit _ _ _) ⟨rfl, rfl⟩
set_option maxHeartbeats 2000000 in
theorem c_X1_loadOf (l : Launch) {σ : Sg} {h : Nat} (hH : HOK σ h) (r : Int32) : Con l 1 yX1_loadOf cX1_loadOf 2 (some .int) [vR (2, 0, h), vI r] σ (pureP (loadS (habs σ h) r) σ) := by
  refine con_of pn_X1_loadOf (Nat.le_of_ble_eq_true rfl) (fun hPK hok => ?_)
  show G l (Rm 1) RX1 cX1_loadOf 2 (some .int) _ 0 [some (vR (2, 0, h)), some (vI r)] [] σ
  refine g_blk (pc' := 6) (loc' := [some (vR (2, 0, h)), some (vI r)]) (st' := [vI (3 : Int32), vI r, vR (0, 0, h)]) (σ' := σ) fl1_ok [(0, .aload_n 0), (1, .getfield 16), (4, .iload_n 1), (5, .iconst 3)] (by decide +kernel) rfl rfl ?_
  refine g_callVp (0, 0, h) [vI r, vI (3 : Int32)] [] vl_RX1_58 mi_X3_cell (ct_cell l hH 0 (by decide) r (3 : Int32)) rfl rfl rfl rfl ⟨Nat.le_of_ble_eq_true rfl, Nat.le_of_ble_eq_true rfl⟩ rfl (Nat.le_of_ble_eq_true rfl) (by decide +kernel) ?_
  refine g_blk (pc' := 16) (loc' := [some (vR (2, 0, h)), some (vI r)]) (st' := [vI (6 : Int32), vI r, vR (0, 0, h), vI (cl (habs σ h) 0 r (3 : Int32))]) (σ' := σ) fl1_ok [(9, .aload_n 0), (10, .getfield 16), (13, .iload_n 1), (14, .bipush 6)] (by decide +kernel) rfl rfl ?_
  refine g_callVp (0, 0, h) [vI r, vI (6 : Int32)] [vI (cl (habs σ h) 0 r (3 : Int32))] vl_RX1_58 mi_X3_cell (ct_cell l hH 0 (by decide) r (6 : Int32)) rfl rfl rfl rfl ⟨Nat.le_of_ble_eq_true rfl, Nat.le_of_ble_eq_true rfl⟩ rfl (Nat.le_of_ble_eq_true rfl) (by decide +kernel) ?_
  refine g_blk (pc' := 20) (loc' := [some (vR (2, 0, h)), some (vI r)]) (st' := [vI ((cl (habs σ h) 0 r (3 : Int32)) + (cl (habs σ h) 0 r (6 : Int32)))]) (σ' := σ) fl1_ok [(19, .iadd)] (by decide +kernel) rfl rfl ?_
  exact g_iret (by decide +kernel) (by exact ⟨rfl, rfl⟩)
set_option maxHeartbeats 2000000 in
theorem c_X1_needsDeepClean (l : Launch) {σ : Sg} {h : Nat} (hH : HOK σ h) (a : Int32) : Con l 1 yX1_needsDeepClean cX1_needsDeepClean 2 (some .boolean) [vR (2, 0, h), vI a] σ (pureP (deepS (habs σ h) a) σ) := by
  refine con_of pn_X1_needsDeepClean (Nat.le_of_ble_eq_true rfl) (fun hPK hok => ?_)
  show G l (Rm 1) RX1 cX1_needsDeepClean 2 (some .boolean) _ 0 [some (vR (2, 0, h)), some (vI a)] [] σ
  refine g_blk (pc' := 6) (loc' := [some (vR (2, 0, h)), some (vI a)]) (st' := [vI (3 : Int32), vI a, vR (0, 1, h)]) (σ' := σ) fl1_ok [(0, .aload_n 0), (1, .getfield 20), (4, .iload_n 1), (5, .iconst 3)] (by decide +kernel) rfl rfl ?_
  refine g_callVp (0, 1, h) [vI a, vI (3 : Int32)] [] vl_RX1_58 mi_X3_cell (ct_cell l hH 1 (by decide) a (3 : Int32)) rfl rfl rfl rfl ⟨Nat.le_of_ble_eq_true rfl, Nat.le_of_ble_eq_true rfl⟩ rfl (Nat.le_of_ble_eq_true rfl) (by decide +kernel) ?_
  refine g_blk (pc' := 15) (loc' := [some (vR (2, 0, h)), some (vI a)]) (st' := [vI (3 : Int32), vI (0 : Int32), vR (0, 4, h), vI (cl (habs σ h) 1 a (3 : Int32))]) (σ' := σ) fl1_ok [(9, .aload_n 0), (10, .getfield 29), (13, .iconst 0), (14, .iconst 3)] (by decide +kernel) rfl rfl ?_
  refine g_callVp (0, 4, h) [vI (0 : Int32), vI (3 : Int32)] [vI (cl (habs σ h) 1 a (3 : Int32))] vl_RX1_58 mi_X3_cell (ct_cell l hH 4 (by decide) (0 : Int32) (3 : Int32)) rfl rfl rfl rfl ⟨Nat.le_of_ble_eq_true rfl, Nat.le_of_ble_eq_true rfl⟩ rfl (Nat.le_of_ble_eq_true rfl) (by decide +kernel) ?_
  refine g_icmp_lt (off := 7) (tgt := 25) (by decide +kernel) (by decide) (fun c18 => ?_) (fun c18 => ?_)
  · refine g_blk (pc' := 26) (loc' := [some (vR (2, 0, h)), some (vI a)]) (st' := [vI (0 : Int32)]) (σ' := σ) fl1_ok [(25, .iconst 0)] (by decide +kernel) rfl rfl ?_
    exact g_zret (by decide +kernel) (Or.inl rfl) (by rw [deepS, if_pos c18]; exact ⟨rfl, rfl⟩)
  · refine g_blk (pc' := 26) (loc' := [some (vR (2, 0, h)), some (vI a)]) (st' := [vI (1 : Int32)]) (σ' := σ) fl1_ok [(21, .iconst 1), (22, .goto 4)] (by decide +kernel) rfl rfl ?_
    exact g_zret (by decide +kernel) (Or.inr rfl) (by rw [deepS, if_neg c18]; exact ⟨rfl, rfl⟩)
set_option maxHeartbeats 2000000 in
theorem c_X1_isDue (l : Launch) {σ : Sg} {h : Nat} (hH : HOK σ h) (a : Int32) : Con l 1 yX1_isDue cX1_isDue 3 (some .boolean) [vR (2, 0, h), vI a] σ (pureP (dueS (habs σ h) a) σ) := by
  refine con_of pn_X1_isDue (Nat.le_of_ble_eq_true rfl) (fun hPK hok => ?_)
  show G l (Rm 1) RX1 cX1_isDue 3 (some .boolean) _ 0 [some (vR (2, 0, h)), some (vI a), none] [] σ
  refine g_blk (pc' := 6) (loc' := [some (vR (2, 0, h)), some (vI a), none]) (st' := [vI (1 : Int32), vI a, vR (0, 1, h)]) (σ' := σ) fl1_ok [(0, .aload_n 0), (1, .getfield 20), (4, .iload_n 1), (5, .iconst 1)] (by decide +kernel) rfl rfl ?_
  refine g_callVp (0, 1, h) [vI a, vI (1 : Int32)] [] vl_RX1_58 mi_X3_cell (ct_cell l hH 1 (by decide) a (1 : Int32)) rfl rfl rfl rfl ⟨Nat.le_of_ble_eq_true rfl, Nat.le_of_ble_eq_true rfl⟩ rfl (Nat.le_of_ble_eq_true rfl) (by decide +kernel) ?_
  refine g_blk (pc' := 11) (loc' := [some (vR (2, 0, h)), some (vI a), some (vI (cl (habs σ h) 1 a (1 : Int32)))]) (st' := [vI (cl (habs σ h) 1 a (1 : Int32))]) (σ' := σ) fl1_ok [(9, .istore_n 2), (10, .iload_n 2)] (by decide +kernel) rfl rfl ?_
  refine g_if_le (off := 19) (tgt := 30) (by decide +kernel) (by decide) (fun c11 => ?_) (fun c11 => ?_)
  · refine g_blk (pc' := 31) (loc' := [some (vR (2, 0, h)), some (vI a), some (vI (cl (habs σ h) 1 a (1 : Int32)))]) (st' := [vI (0 : Int32)]) (σ' := σ) fl1_ok [(30, .iconst 0)] (by decide +kernel) rfl rfl ?_
    exact g_zret (by decide +kernel) (Or.inl rfl) (by rw [dueS, if_pos c11]; exact ⟨rfl, rfl⟩)
  · refine g_blk (pc' := 19) (loc' := [some (vR (2, 0, h)), some (vI a), some (vI (cl (habs σ h) 1 a (1 : Int32)))]) (st' := [vI (cl (habs σ h) 1 a (1 : Int32)), vI ((habs σ h).2 5)]) (σ' := σ) fl1_ok [(14, .aload_n 0), (15, .getfield 44), (18, .iload_n 2)] (by decide +kernel) rfl rfl ?_
    refine g_remS (hy := fun z => zc11 (by rw [z]; decide)) (hd := by decide +kernel) (k := ?_)
    refine g_blk (pc' := 22) (loc' := [some (vR (2, 0, h)), some (vI a), some (vI (cl (habs σ h) 1 a (1 : Int32)))]) (st' := [vI (cl (habs σ h) 1 a (1 : Int32)), vI a, vI (remS ((habs σ h).2 5) (cl (habs σ h) 1 a (1 : Int32)))]) (σ' := σ) fl1_ok [(20, .iload_n 1), (21, .iload_n 2)] (by decide +kernel) rfl rfl ?_
    refine g_remS (hy := fun z => zc11 (by rw [z]; decide)) (hd := by decide +kernel) (k := ?_)
    refine g_icmp_ne (off := 7) (tgt := 30) (by decide +kernel) (by decide) (fun c23 => ?_) (fun c23 => ?_)
    · refine g_blk (pc' := 31) (loc' := [some (vR (2, 0, h)), some (vI a), some (vI (cl (habs σ h) 1 a (1 : Int32)))]) (st' := [vI (0 : Int32)]) (σ' := σ) fl1_ok [(30, .iconst 0)] (by decide +kernel) rfl rfl ?_
      exact g_zret (by decide +kernel) (Or.inl rfl) (by rw [dueS, if_neg c11, if_pos c23]; exact ⟨rfl, rfl⟩)
    · refine g_blk (pc' := 31) (loc' := [some (vR (2, 0, h)), some (vI a), some (vI (cl (habs σ h) 1 a (1 : Int32)))]) (st' := [vI (1 : Int32)]) (σ' := σ) fl1_ok [(26, .iconst 1), (27, .goto 4)] (by decide +kernel) rfl rfl ?_
      exact g_zret (by decide +kernel) (Or.inr rfl) (by rw [dueS, if_neg c11, if_neg (fun z => z c23)]; exact ⟨rfl, rfl⟩)
set_option maxHeartbeats 2000000 in
theorem c_X1_hasTwinAhead (l : Launch) {σ : Sg} {h : Nat} (hH : HOK σ h) (t : Int32) : Con l 1 yX1_hasTwinAhead cX1_hasTwinAhead 2 (some .boolean) [vR (2, 0, h), vI t] σ (pureP (twinS (habs σ h) t) σ) := by
  refine con_of pn_X1_hasTwinAhead (Nat.le_of_ble_eq_true rfl) (fun hPK hok => ?_)
  show G l (Rm 1) RX1 cX1_hasTwinAhead 2 (some .boolean) _ 0 [some (vR (2, 0, h)), some (vI t)] [] σ
  refine g_blk (pc' := 1) (loc' := [some (vR (2, 0, h)), some (vI t)]) (st' := [vI t]) (σ' := σ) fl1_ok [(0, .iload_n 1)] (by decide +kernel) rfl rfl ?_
  refine g_if_le (off := 30) (tgt := 31) (by decide +kernel) (by decide) (fun c1 => ?_) (fun c1 => ?_)
  · refine g_blk (pc' := 32) (loc' := [some (vR (2, 0, h)), some (vI t)]) (st' := [vI (0 : Int32)]) (σ' := σ) fl1_ok [(31, .iconst 0)] (by decide +kernel) rfl rfl ?_
    exact g_zret (by decide +kernel) (Or.inl rfl) (by rw [twinS, if_pos c1]; exact ⟨rfl, rfl⟩)
  · refine g_blk (pc' := 12) (loc' := [some (vR (2, 0, h)), some (vI t)]) (st' := [vI (0 : Int32), vI (t - (1 : Int32)), vR (0, 2, h)]) (σ' := σ) fl1_ok [(4, .aload_n 0), (5, .getfield 23), (8, .iload_n 1), (9, .iconst 1), (10, .isub), (11, .iconst 0)] (by decide +kernel) rfl rfl ?_
    refine g_callVp (0, 2, h) [vI (t - (1 : Int32)), vI (0 : Int32)] [] vl_RX1_58 mi_X3_cell (ct_cell l hH 2 (by decide) (t - (1 : Int32)) (0 : Int32)) rfl rfl rfl rfl ⟨Nat.le_of_ble_eq_true rfl, Nat.le_of_ble_eq_true rfl⟩ rfl (Nat.le_of_ble_eq_true rfl) (by decide +kernel) ?_
    refine g_blk (pc' := 21) (loc' := [some (vR (2, 0, h)), some (vI t)]) (st' := [vI (0 : Int32), vI t, vR (0, 2, h), vI (cl (habs σ h) 2 (t - (1 : Int32)) (0 : Int32))]) (σ' := σ) fl1_ok [(15, .aload_n 0), (16, .getfield 23), (19, .iload_n 1), (20, .iconst 0)] (by decide +kernel) rfl rfl ?_
    refine g_callVp (0, 2, h) [vI t, vI (0 : Int32)] [vI (cl (habs σ h) 2 (t - (1 : Int32)) (0 : Int32))] vl_RX1_58 mi_X3_cell (ct_cell l hH 2 (by decide) t (0 : Int32)) rfl rfl rfl rfl ⟨Nat.le_of_ble_eq_true rfl, Nat.le_of_ble_eq_true rfl⟩ rfl (Nat.le_of_ble_eq_true rfl) (by decide +kernel) ?_
    refine g_icmp_ne (off := 7) (tgt := 31) (by decide +kernel) (by decide) (fun c24 => ?_) (fun c24 => ?_)
    · refine g_blk (pc' := 32) (loc' := [some (vR (2, 0, h)), some (vI t)]) (st' := [vI (0 : Int32)]) (σ' := σ) fl1_ok [(31, .iconst 0)] (by decide +kernel) rfl rfl ?_
      exact g_zret (by decide +kernel) (Or.inl rfl) (by rw [twinS, if_neg c1, if_pos c24]; exact ⟨rfl, rfl⟩)
    · refine g_blk (pc' := 32) (loc' := [some (vR (2, 0, h)), some (vI t)]) (st' := [vI (1 : Int32)]) (σ' := σ) fl1_ok [(27, .iconst 1), (28, .goto 4)] (by decide +kernel) rfl rfl ?_
      exact g_zret (by decide +kernel) (Or.inr rfl) (by rw [twinS, if_neg c1, if_neg (fun z => z c24)]; exact ⟨rfl, rfl⟩)
set_option maxHeartbeats 2000000 in
theorem c_X1_goesAhead (l : Launch) {σ : Sg} {h : Nat} (hH : HOK σ h) (r o : Int32) : Con l 2 yX1_goesAhead cX1_goesAhead 5 (some .boolean) [vR (2, 0, h), vI r, vI o] σ (pureP (aheadS (habs σ h) r o) σ) := by
  refine con_of pn_X1_goesAhead (Nat.le_of_ble_eq_true rfl) (fun hPK hok => ?_)
  show G l (Rm 2) RX1 cX1_goesAhead 5 (some .boolean) _ 0 [some (vR (2, 0, h)), some (vI r), some (vI o), none, none] [] σ
  refine g_blk (pc' := 2) (loc' := [some (vR (2, 0, h)), some (vI r), some (vI o), none, none]) (st' := [vI r, vR (2, 0, h)]) (σ' := σ) fl1_ok [(0, .aload_n 0), (1, .iload_n 1)] (by decide +kernel) rfl rfl ?_
  refine g_callVp (2, 0, h) [vI r] [] vl_RX1_118 mi_X1_loadOf (c_X1_loadOf l hH r) rfl rfl rfl rfl ⟨Nat.le_of_ble_eq_true rfl, Nat.le_of_ble_eq_true rfl⟩ rfl (Nat.le_of_ble_eq_true rfl) (by decide +kernel) ?_
  refine g_blk (pc' := 11) (loc' := [some (vR (2, 0, h)), some (vI r), some (vI o), none, none]) (st' := [vI (0 : Int32), vI o, vR (0, 0, h), vI (loadS (habs σ h) r)]) (σ' := σ) fl1_ok [(5, .aload_n 0), (6, .getfield 16), (9, .iload_n 2), (10, .iconst 0)] (by decide +kernel) rfl rfl ?_
  refine g_callVp (0, 0, h) [vI o, vI (0 : Int32)] [vI (loadS (habs σ h) r)] vl_RX1_58 mi_X3_cell (ct_cell l hH 0 (by decide) o (0 : Int32)) rfl rfl rfl rfl ⟨Nat.le_of_ble_eq_true rfl, Nat.le_of_ble_eq_true rfl⟩ rfl (Nat.le_of_ble_eq_true rfl) (by decide +kernel) ?_
  refine g_blk (pc' := 18) (loc' := [some (vR (2, 0, h)), some (vI r), some (vI o), some (vI ((loadS (habs σ h) r) * (cl (habs σ h) 0 o (0 : Int32)))), none]) (st' := [vI o, vR (2, 0, h)]) (σ' := σ) fl1_ok [(14, .imul), (15, .istore_n 3), (16, .aload_n 0), (17, .iload_n 2)] (by decide +kernel) rfl rfl ?_
  refine g_callVp (2, 0, h) [vI o] [] vl_RX1_118 mi_X1_loadOf (c_X1_loadOf l hH o) rfl rfl rfl rfl ⟨Nat.le_of_ble_eq_true rfl, Nat.le_of_ble_eq_true rfl⟩ rfl (Nat.le_of_ble_eq_true rfl) (by decide +kernel) ?_
  refine g_blk (pc' := 27) (loc' := [some (vR (2, 0, h)), some (vI r), some (vI o), some (vI ((loadS (habs σ h) r) * (cl (habs σ h) 0 o (0 : Int32)))), none]) (st' := [vI (0 : Int32), vI r, vR (0, 0, h), vI (loadS (habs σ h) o)]) (σ' := σ) fl1_ok [(21, .aload_n 0), (22, .getfield 16), (25, .iload_n 1), (26, .iconst 0)] (by decide +kernel) rfl rfl ?_
  refine g_callVp (0, 0, h) [vI r, vI (0 : Int32)] [vI (loadS (habs σ h) o)] vl_RX1_58 mi_X3_cell (ct_cell l hH 0 (by decide) r (0 : Int32)) rfl rfl rfl rfl ⟨Nat.le_of_ble_eq_true rfl, Nat.le_of_ble_eq_true rfl⟩ rfl (Nat.le_of_ble_eq_true rfl) (by decide +kernel) ?_
  refine g_blk (pc' := 36) (loc' := [some (vR (2, 0, h)), some (vI r), some (vI o), some (vI ((loadS (habs σ h) r) * (cl (habs σ h) 0 o (0 : Int32)))), some (vI ((loadS (habs σ h) o) * (cl (habs σ h) 0 r (0 : Int32))))]) (st' := [vI ((loadS (habs σ h) o) * (cl (habs σ h) 0 r (0 : Int32))), vI ((loadS (habs σ h) r) * (cl (habs σ h) 0 o (0 : Int32)))]) (σ' := σ) fl1_ok [(30, .imul), (31, .istore 4), (33, .iload_n 3), (34, .iload 4)] (by decide +kernel) rfl rfl ?_
  refine g_icmp_eq (off := 15) (tgt := 51) (by decide +kernel) (by decide) (fun c36 => ?_) (fun c36 => ?_)
  · refine g_blk (pc' := 57) (loc' := [some (vR (2, 0, h)), some (vI r), some (vI o), some (vI ((loadS (habs σ h) r) * (cl (habs σ h) 0 o (0 : Int32)))), some (vI ((loadS (habs σ h) o) * (cl (habs σ h) 0 r (0 : Int32))))]) (st' := [vI (4 : Int32), vI r, vR (0, 0, h)]) (σ' := σ) fl1_ok [(51, .aload_n 0), (52, .getfield 16), (55, .iload_n 1), (56, .iconst 4)] (by decide +kernel) rfl rfl ?_
    refine g_callVp (0, 0, h) [vI r, vI (4 : Int32)] [] vl_RX1_58 mi_X3_cell (ct_cell l hH 0 (by decide) r (4 : Int32)) rfl rfl rfl rfl ⟨Nat.le_of_ble_eq_true rfl, Nat.le_of_ble_eq_true rfl⟩ rfl (Nat.le_of_ble_eq_true rfl) (by decide +kernel) ?_
    refine g_blk (pc' := 66) (loc' := [some (vR (2, 0, h)), some (vI r), some (vI o), some (vI ((loadS (habs σ h) r) * (cl (habs σ h) 0 o (0 : Int32)))), some (vI ((loadS (habs σ h) o) * (cl (habs σ h) 0 r (0 : Int32))))]) (st' := [vI (4 : Int32), vI o, vR (0, 0, h), vI (cl (habs σ h) 0 r (4 : Int32))]) (σ' := σ) fl1_ok [(60, .aload_n 0), (61, .getfield 16), (64, .iload_n 2), (65, .iconst 4)] (by decide +kernel) rfl rfl ?_
    refine g_callVp (0, 0, h) [vI o, vI (4 : Int32)] [vI (cl (habs σ h) 0 r (4 : Int32))] vl_RX1_58 mi_X3_cell (ct_cell l hH 0 (by decide) o (4 : Int32)) rfl rfl rfl rfl ⟨Nat.le_of_ble_eq_true rfl, Nat.le_of_ble_eq_true rfl⟩ rfl (Nat.le_of_ble_eq_true rfl) (by decide +kernel) ?_
    refine g_icmp_le (off := 7) (tgt := 76) (by decide +kernel) (by decide) (fun c69 => ?_) (fun c69 => ?_)
    · refine g_blk (pc' := 77) (loc' := [some (vR (2, 0, h)), some (vI r), some (vI o), some (vI ((loadS (habs σ h) r) * (cl (habs σ h) 0 o (0 : Int32)))), some (vI ((loadS (habs σ h) o) * (cl (habs σ h) 0 r (0 : Int32))))]) (st' := [vI (0 : Int32)]) (σ' := σ) fl1_ok [(76, .iconst 0)] (by decide +kernel) rfl rfl ?_
      exact g_zret (by decide +kernel) (Or.inl rfl) (by rw [aheadS, if_pos c36, if_pos c69]; exact ⟨rfl, rfl⟩)
    · refine g_blk (pc' := 77) (loc' := [some (vR (2, 0, h)), some (vI r), some (vI o), some (vI ((loadS (habs σ h) r) * (cl (habs σ h) 0 o (0 : Int32)))), some (vI ((loadS (habs σ h) o) * (cl (habs σ h) 0 r (0 : Int32))))]) (st' := [vI (1 : Int32)]) (σ' := σ) fl1_ok [(72, .iconst 1), (73, .goto 4)] (by decide +kernel) rfl rfl ?_
      exact g_zret (by decide +kernel) (Or.inr rfl) (by rw [aheadS, if_pos c36, if_neg c69]; exact ⟨rfl, rfl⟩)
  · refine g_blk (pc' := 42) (loc' := [some (vR (2, 0, h)), some (vI r), some (vI o), some (vI ((loadS (habs σ h) r) * (cl (habs σ h) 0 o (0 : Int32)))), some (vI ((loadS (habs σ h) o) * (cl (habs σ h) 0 r (0 : Int32))))]) (st' := [vI ((loadS (habs σ h) o) * (cl (habs σ h) 0 r (0 : Int32))), vI ((loadS (habs σ h) r) * (cl (habs σ h) 0 o (0 : Int32)))]) (σ' := σ) fl1_ok [(39, .iload_n 3), (40, .iload 4)] (by decide +kernel) rfl rfl ?_
    refine g_icmp_ge (off := 7) (tgt := 49) (by decide +kernel) (by decide) (fun c42 => ?_) (fun c42 => ?_)
    · refine g_blk (pc' := 50) (loc' := [some (vR (2, 0, h)), some (vI r), some (vI o), some (vI ((loadS (habs σ h) r) * (cl (habs σ h) 0 o (0 : Int32)))), some (vI ((loadS (habs σ h) o) * (cl (habs σ h) 0 r (0 : Int32))))]) (st' := [vI (0 : Int32)]) (σ' := σ) fl1_ok [(49, .iconst 0)] (by decide +kernel) rfl rfl ?_
      exact g_zret (by decide +kernel) (Or.inl rfl) (by rw [aheadS, if_neg c36, if_pos c42]; exact ⟨rfl, rfl⟩)
    · refine g_blk (pc' := 50) (loc' := [some (vR (2, 0, h)), some (vI r), some (vI o), some (vI ((loadS (habs σ h) r) * (cl (habs σ h) 0 o (0 : Int32)))), some (vI ((loadS (habs σ h) o) * (cl (habs σ h) 0 r (0 : Int32))))]) (st' := [vI (1 : Int32)]) (σ' := σ) fl1_ok [(45, .iconst 1), (46, .goto 4)] (by decide +kernel) rfl rfl ?_
      exact g_zret (by decide +kernel) (Or.inr rfl) (by rw [aheadS, if_neg c36, if_neg c42]; exact ⟨rfl, rfl⟩)
set_option maxHeartbeats 2000000 in
theorem c_X1_isOpen (l : Launch) {σ : Sg} {h : Nat} (hH : HOK σ h) (t : Int32) : Con l 1 yX1_isOpen cX1_isOpen 2 (some .boolean) [vR (2, 0, h), vI t] σ (pureP (openS (habs σ h) t) σ) := by
  refine con_of pn_X1_isOpen (Nat.le_of_ble_eq_true rfl) (fun hPK hok => ?_)
  show G l (Rm 1) RX1 cX1_isOpen 2 (some .boolean) _ 0 [some (vR (2, 0, h)), some (vI t)] [] σ
  refine g_blk (pc' := 5) (loc' := [some (vR (2, 0, h)), some (vI t)]) (st' := [vI t, vR (0, 2, h)]) (σ' := σ) fl1_ok [(0, .aload_n 0), (1, .getfield 23), (4, .iload_n 1)] (by decide +kernel) rfl rfl ?_
  refine g_callVp (0, 2, h) [vI t] [] vl_RX1_121 mi_X3_has (ct_has l hH 2 (by decide) t) rfl rfl rfl rfl ⟨Nat.le_of_ble_eq_true rfl, Nat.le_of_ble_eq_true rfl⟩ rfl (Nat.le_of_ble_eq_true rfl) (by decide +kernel) ?_
  refine g_if_eq (off := 19) (tgt := 27) (by decide +kernel) (by decide) (fun c8 => ?_) (fun c8 => ?_)
  · refine g_blk (pc' := 28) (loc' := [some (vR (2, 0, h)), some (vI t)]) (st' := [vI (0 : Int32)]) (σ' := σ) fl1_ok [(27, .iconst 0)] (by decide +kernel) rfl rfl ?_
    exact g_zret (by decide +kernel) (Or.inl rfl) (by rw [openS, if_pos c8]; exact ⟨rfl, rfl⟩)
  · refine g_blk (pc' := 17) (loc' := [some (vR (2, 0, h)), some (vI t)]) (st' := [vI (3 : Int32), vI t, vR (0, 2, h)]) (σ' := σ) fl1_ok [(11, .aload_n 0), (12, .getfield 23), (15, .iload_n 1), (16, .iconst 3)] (by decide +kernel) rfl rfl ?_
    refine g_callVp (0, 2, h) [vI t, vI (3 : Int32)] [] vl_RX1_58 mi_X3_cell (ct_cell l hH 2 (by decide) t (3 : Int32)) rfl rfl rfl rfl ⟨Nat.le_of_ble_eq_true rfl, Nat.le_of_ble_eq_true rfl⟩ rfl (Nat.le_of_ble_eq_true rfl) (by decide +kernel) ?_
    refine g_if_ne (off := 7) (tgt := 27) (by decide +kernel) (by decide) (fun c20 => ?_) (fun c20 => ?_)
    · refine g_blk (pc' := 28) (loc' := [some (vR (2, 0, h)), some (vI t)]) (st' := [vI (0 : Int32)]) (σ' := σ) fl1_ok [(27, .iconst 0)] (by decide +kernel) rfl rfl ?_
      exact g_zret (by decide +kernel) (Or.inl rfl) (by rw [openS, if_neg c8, if_pos c20]; exact ⟨rfl, rfl⟩)
    · refine g_blk (pc' := 28) (loc' := [some (vR (2, 0, h)), some (vI t)]) (st' := [vI (1 : Int32)]) (σ' := σ) fl1_ok [(23, .iconst 1), (24, .goto 4)] (by decide +kernel) rfl rfl ?_
      exact g_zret (by decide +kernel) (Or.inr rfl) (by rw [openS, if_neg c8, if_neg (fun z => z c20)]; exact ⟨rfl, rfl⟩)
set_option maxHeartbeats 2000000 in
theorem c_X1_isOpenTaskOf (l : Launch) {σ : Sg} {h : Nat} (hH : HOK σ h) (t r : Int32) : Con l 2 yX1_isOpenTaskOf cX1_isOpenTaskOf 3 (some .boolean) [vR (2, 0, h), vI t, vI r] σ (pureP (openOfS (habs σ h) t r) σ) := by
  refine con_of pn_X1_isOpenTaskOf (Nat.le_of_ble_eq_true rfl) (fun hPK hok => ?_)
  show G l (Rm 2) RX1 cX1_isOpenTaskOf 3 (some .boolean) _ 0 [some (vR (2, 0, h)), some (vI t), some (vI r)] [] σ
  refine g_blk (pc' := 2) (loc' := [some (vR (2, 0, h)), some (vI t), some (vI r)]) (st' := [vI t, vR (2, 0, h)]) (σ' := σ) fl1_ok [(0, .aload_n 0), (1, .iload_n 1)] (by decide +kernel) rfl rfl ?_
  refine g_callVp (2, 0, h) [vI t] [] vl_RX1_124 mi_X1_isOpen (c_X1_isOpen l hH t) rfl rfl rfl rfl ⟨Nat.le_of_ble_eq_true rfl, Nat.le_of_ble_eq_true rfl⟩ rfl (Nat.le_of_ble_eq_true rfl) (by decide +kernel) ?_
  refine g_if_eq (off := 20) (tgt := 25) (by decide +kernel) (by decide) (fun c5 => ?_) (fun c5 => ?_)
  · refine g_blk (pc' := 26) (loc' := [some (vR (2, 0, h)), some (vI t), some (vI r)]) (st' := [vI (0 : Int32)]) (σ' := σ) fl1_ok [(25, .iconst 0)] (by decide +kernel) rfl rfl ?_
    exact g_zret (by decide +kernel) (Or.inl rfl) (by rw [openOfS, if_pos c5]; exact ⟨rfl, rfl⟩)
  · refine g_blk (pc' := 14) (loc' := [some (vR (2, 0, h)), some (vI t), some (vI r)]) (st' := [vI (1 : Int32), vI t, vR (0, 2, h)]) (σ' := σ) fl1_ok [(8, .aload_n 0), (9, .getfield 23), (12, .iload_n 1), (13, .iconst 1)] (by decide +kernel) rfl rfl ?_
    refine g_callVp (0, 2, h) [vI t, vI (1 : Int32)] [] vl_RX1_58 mi_X3_cell (ct_cell l hH 2 (by decide) t (1 : Int32)) rfl rfl rfl rfl ⟨Nat.le_of_ble_eq_true rfl, Nat.le_of_ble_eq_true rfl⟩ rfl (Nat.le_of_ble_eq_true rfl) (by decide +kernel) ?_
    refine g_blk (pc' := 18) (loc' := [some (vR (2, 0, h)), some (vI t), some (vI r)]) (st' := [vI r, vI (cl (habs σ h) 2 t (1 : Int32))]) (σ' := σ) fl1_ok [(17, .iload_n 2)] (by decide +kernel) rfl rfl ?_
    refine g_icmp_ne (off := 7) (tgt := 25) (by decide +kernel) (by decide) (fun c18 => ?_) (fun c18 => ?_)
    · refine g_blk (pc' := 26) (loc' := [some (vR (2, 0, h)), some (vI t), some (vI r)]) (st' := [vI (0 : Int32)]) (σ' := σ) fl1_ok [(25, .iconst 0)] (by decide +kernel) rfl rfl ?_
      exact g_zret (by decide +kernel) (Or.inl rfl) (by rw [openOfS, if_neg c5, if_pos c18]; exact ⟨rfl, rfl⟩)
    · refine g_blk (pc' := 26) (loc' := [some (vR (2, 0, h)), some (vI t), some (vI r)]) (st' := [vI (1 : Int32)]) (σ' := σ) fl1_ok [(21, .iconst 1), (22, .goto 4)] (by decide +kernel) rfl rfl ?_
      exact g_zret (by decide +kernel) (Or.inr rfl) (by rw [openOfS, if_neg c5, if_neg (fun z => z c18)]; exact ⟨rfl, rfl⟩)
set_option maxHeartbeats 2000000 in
theorem c_X1_effortOfTask (l : Launch) {σ : Sg} {h : Nat} (hH : HOK σ h) (a : Int32) : Con l 2 yX1_effortOfTask cX1_effortOfTask 3 (some .int) [vR (2, 0, h), vI a] σ (pureP (effS (habs σ h) a) σ) := by
  refine con_of pn_X1_effortOfTask (Nat.le_of_ble_eq_true rfl) (fun hPK hok => ?_)
  show G l (Rm 2) RX1 cX1_effortOfTask 3 (some .int) _ 0 [some (vR (2, 0, h)), some (vI a), none] [] σ
  refine g_blk (pc' := 6) (loc' := [some (vR (2, 0, h)), some (vI a), none]) (st' := [vI (0 : Int32), vI a, vR (0, 1, h)]) (σ' := σ) fl1_ok [(0, .aload_n 0), (1, .getfield 20), (4, .iload_n 1), (5, .iconst 0)] (by decide +kernel) rfl rfl ?_
  refine g_callVp (0, 1, h) [vI a, vI (0 : Int32)] [] vl_RX1_58 mi_X3_cell (ct_cell l hH 1 (by decide) a (0 : Int32)) rfl rfl rfl rfl ⟨Nat.le_of_ble_eq_true rfl, Nat.le_of_ble_eq_true rfl⟩ rfl (Nat.le_of_ble_eq_true rfl) (by decide +kernel) ?_
  refine g_blk (pc' := 12) (loc' := [some (vR (2, 0, h)), some (vI a), some (vI (cl (habs σ h) 1 a (0 : Int32)))]) (st' := [vI a, vR (2, 0, h)]) (σ' := σ) fl1_ok [(9, .istore_n 2), (10, .aload_n 0), (11, .iload_n 1)] (by decide +kernel) rfl rfl ?_
  refine g_callVp (2, 0, h) [vI a] [] vl_RX1_93 mi_X1_needsDeepClean (c_X1_needsDeepClean l hH a) rfl rfl rfl rfl ⟨Nat.le_of_ble_eq_true rfl, Nat.le_of_ble_eq_true rfl⟩ rfl (Nat.le_of_ble_eq_true rfl) (by decide +kernel) ?_
  refine g_if_eq (off := 19) (tgt := 34) (by decide +kernel) (by decide) (fun c15 => ?_) (fun c15 => ?_)
  · refine g_blk (pc' := 36) (loc' := [some (vR (2, 0, h)), some (vI a), some (vI (cl (habs σ h) 1 a (0 : Int32)))]) (st' := [vI a, vR (2, 0, h)]) (σ' := σ) fl1_ok [(34, .aload_n 0), (35, .iload_n 1)] (by decide +kernel) rfl rfl ?_
    refine g_callVp (2, 0, h) [vI a] [] vl_RX1_101 mi_X1_isDue (c_X1_isDue l hH a) rfl rfl rfl rfl ⟨Nat.le_of_ble_eq_true rfl, Nat.le_of_ble_eq_true rfl⟩ rfl (Nat.le_of_ble_eq_true rfl) (by decide +kernel) ?_
    refine g_if_eq (off := 7) (tgt := 46) (by decide +kernel) (by decide) (fun c39 => ?_) (fun c39 => ?_)
    · refine g_blk (pc' := 47) (loc' := [some (vR (2, 0, h)), some (vI a), some (vI (cl (habs σ h) 1 a (0 : Int32)))]) (st' := [vI (0 : Int32)]) (σ' := σ) fl1_ok [(46, .iconst 0)] (by decide +kernel) rfl rfl ?_
      exact g_iret (by decide +kernel) (by rw [effS, if_pos c15, if_pos c39]; exact ⟨rfl, rfl⟩)
    · refine g_blk (pc' := 47) (loc' := [some (vR (2, 0, h)), some (vI a), some (vI (cl (habs σ h) 1 a (0 : Int32)))]) (st' := [vI (cl (habs σ h) 1 a (0 : Int32))]) (σ' := σ) fl1_ok [(42, .iload_n 2), (43, .goto 4)] (by decide +kernel) rfl rfl ?_
      exact g_iret (by decide +kernel) (by rw [effS, if_pos c15, if_neg c39]; exact ⟨rfl, rfl⟩)
  · refine g_blk (pc' := 24) (loc' := [some (vR (2, 0, h)), some (vI a), some (vI (cl (habs σ h) 1 a (0 : Int32)))]) (st' := [vI (2 : Int32), vI (0 : Int32), vR (0, 4, h)]) (σ' := σ) fl1_ok [(18, .aload_n 0), (19, .getfield 29), (22, .iconst 0), (23, .iconst 2)] (by decide +kernel) rfl rfl ?_
    refine g_callVp (0, 4, h) [vI (0 : Int32), vI (2 : Int32)] [] vl_RX1_58 mi_X3_cell (ct_cell l hH 4 (by decide) (0 : Int32) (2 : Int32)) rfl rfl rfl rfl ⟨Nat.le_of_ble_eq_true rfl, Nat.le_of_ble_eq_true rfl⟩ rfl (Nat.le_of_ble_eq_true rfl) (by decide +kernel) ?_
    refine g_blk (pc' := 32) (loc' := [some (vR (2, 0, h)), some (vI a), some (vI (cl (habs σ h) 1 a (0 : Int32)))]) (st' := [vI (2 : Int32), vI (((cl (habs σ h) 4 (0 : Int32) (2 : Int32)) * (cl (habs σ h) 1 a (0 : Int32))) + (1 : Int32))]) (σ' := σ) fl1_ok [(27, .iload_n 2), (28, .imul), (29, .iconst 1), (30, .iadd), (31, .iconst 2)] (by decide +kernel) rfl rfl ?_
    refine g_idiv (hy := by decide) (hd := by decide +kernel) (k := ?_)
    exact g_iret (by decide +kernel) (by rw [effS, if_neg c15]; exact ⟨rfl, rfl⟩)
set_option maxHeartbeats 2000000 in
theorem c_X1_canExchange (l : Launch) {σ : Sg} {h : Nat} (hH : HOK σ h) (a b : Int32) : Con l 2 yX1_canExchange cX1_canExchange 3 (some .boolean) [vR (2, 0, h), vI a, vI b] σ (pureP (canS (habs σ h) a b) σ) := by
  refine con_of pn_X1_canExchange (Nat.le_of_ble_eq_true rfl) (fun hPK hok => ?_)
  show G l (Rm 2) RX1 cX1_canExchange 3 (some .boolean) _ 0 [some (vR (2, 0, h)), some (vI a), some (vI b)] [] σ
  refine g_blk (pc' := 2) (loc' := [some (vR (2, 0, h)), some (vI a), some (vI b)]) (st' := [vI a, vR (2, 0, h)]) (σ' := σ) fl1_ok [(0, .aload_n 0), (1, .iload_n 1)] (by decide +kernel) rfl rfl ?_
  refine g_callVp (2, 0, h) [vI a] [] vl_RX1_124 mi_X1_isOpen (c_X1_isOpen l hH a) rfl rfl rfl rfl ⟨Nat.le_of_ble_eq_true rfl, Nat.le_of_ble_eq_true rfl⟩ rfl (Nat.le_of_ble_eq_true rfl) (by decide +kernel) ?_
  refine g_if_eq (off := 36) (tgt := 41) (by decide +kernel) (by decide) (fun c5 => ?_) (fun c5 => ?_)
  · refine g_blk (pc' := 42) (loc' := [some (vR (2, 0, h)), some (vI a), some (vI b)]) (st' := [vI (0 : Int32)]) (σ' := σ) fl1_ok [(41, .iconst 0)] (by decide +kernel) rfl rfl ?_
    exact g_zret (by decide +kernel) (Or.inl rfl) (by rw [canS, if_pos c5]; exact ⟨rfl, rfl⟩)
  · refine g_blk (pc' := 10) (loc' := [some (vR (2, 0, h)), some (vI a), some (vI b)]) (st' := [vI b, vR (2, 0, h)]) (σ' := σ) fl1_ok [(8, .aload_n 0), (9, .iload_n 2)] (by decide +kernel) rfl rfl ?_
    refine g_callVp (2, 0, h) [vI b] [] vl_RX1_124 mi_X1_isOpen (c_X1_isOpen l hH b) rfl rfl rfl rfl ⟨Nat.le_of_ble_eq_true rfl, Nat.le_of_ble_eq_true rfl⟩ rfl (Nat.le_of_ble_eq_true rfl) (by decide +kernel) ?_
    refine g_if_eq (off := 28) (tgt := 41) (by decide +kernel) (by decide) (fun c13 => ?_) (fun c13 => ?_)
    · refine g_blk (pc' := 42) (loc' := [some (vR (2, 0, h)), some (vI a), some (vI b)]) (st' := [vI (0 : Int32)]) (σ' := σ) fl1_ok [(41, .iconst 0)] (by decide +kernel) rfl rfl ?_
      exact g_zret (by decide +kernel) (Or.inl rfl) (by rw [canS, if_neg c5, if_pos c13]; exact ⟨rfl, rfl⟩)
    · refine g_blk (pc' := 22) (loc' := [some (vR (2, 0, h)), some (vI a), some (vI b)]) (st' := [vI (1 : Int32), vI a, vR (0, 2, h)]) (σ' := σ) fl1_ok [(16, .aload_n 0), (17, .getfield 23), (20, .iload_n 1), (21, .iconst 1)] (by decide +kernel) rfl rfl ?_
      refine g_callVp (0, 2, h) [vI a, vI (1 : Int32)] [] vl_RX1_58 mi_X3_cell (ct_cell l hH 2 (by decide) a (1 : Int32)) rfl rfl rfl rfl ⟨Nat.le_of_ble_eq_true rfl, Nat.le_of_ble_eq_true rfl⟩ rfl (Nat.le_of_ble_eq_true rfl) (by decide +kernel) ?_
      refine g_blk (pc' := 31) (loc' := [some (vR (2, 0, h)), some (vI a), some (vI b)]) (st' := [vI (1 : Int32), vI b, vR (0, 2, h), vI (cl (habs σ h) 2 a (1 : Int32))]) (σ' := σ) fl1_ok [(25, .aload_n 0), (26, .getfield 23), (29, .iload_n 2), (30, .iconst 1)] (by decide +kernel) rfl rfl ?_
      refine g_callVp (0, 2, h) [vI b, vI (1 : Int32)] [vI (cl (habs σ h) 2 a (1 : Int32))] vl_RX1_58 mi_X3_cell (ct_cell l hH 2 (by decide) b (1 : Int32)) rfl rfl rfl rfl ⟨Nat.le_of_ble_eq_true rfl, Nat.le_of_ble_eq_true rfl⟩ rfl (Nat.le_of_ble_eq_true rfl) (by decide +kernel) ?_
      refine g_icmp_eq (off := 7) (tgt := 41) (by decide +kernel) (by decide) (fun c34 => ?_) (fun c34 => ?_)
      · refine g_blk (pc' := 42) (loc' := [some (vR (2, 0, h)), some (vI a), some (vI b)]) (st' := [vI (0 : Int32)]) (σ' := σ) fl1_ok [(41, .iconst 0)] (by decide +kernel) rfl rfl ?_
        exact g_zret (by decide +kernel) (Or.inl rfl) (by rw [canS, if_neg c5, if_neg c13, if_pos c34]; exact ⟨rfl, rfl⟩)
      · refine g_blk (pc' := 42) (loc' := [some (vR (2, 0, h)), some (vI a), some (vI b)]) (st' := [vI (1 : Int32)]) (σ' := σ) fl1_ok [(37, .iconst 1), (38, .goto 4)] (by decide +kernel) rfl rfl ?_
        exact g_zret (by decide +kernel) (Or.inr rfl) (by rw [canS, if_neg c5, if_neg c13, if_neg c34]; exact ⟨rfl, rfl⟩)
set_option maxHeartbeats 2000000 in
theorem c_X1_gainOfExchange (l : Launch) {σ : Sg} {h : Nat} (hH : HOK σ h) (a b : Int32) : Con l 1 yX1_gainOfExchange cX1_gainOfExchange 3 (some .int) [vR (2, 0, h), vI a, vI b] σ (pureP (gainS (habs σ h) a b) σ) := by
  refine con_of pn_X1_gainOfExchange (Nat.le_of_ble_eq_true rfl) (fun hPK hok => ?_)
  show G l (Rm 1) RX1 cX1_gainOfExchange 3 (some .int) _ 0 [some (vR (2, 0, h)), some (vI a), some (vI b)] [] σ
  refine g_blk (pc' := 6) (loc' := [some (vR (2, 0, h)), some (vI a), some (vI b)]) (st' := [vI (2 : Int32), vI b, vR (0, 2, h)]) (σ' := σ) fl1_ok [(0, .aload_n 0), (1, .getfield 23), (4, .iload_n 2), (5, .iconst 2)] (by decide +kernel) rfl rfl ?_
  refine g_callVp (0, 2, h) [vI b, vI (2 : Int32)] [] vl_RX1_58 mi_X3_cell (ct_cell l hH 2 (by decide) b (2 : Int32)) rfl rfl rfl rfl ⟨Nat.le_of_ble_eq_true rfl, Nat.le_of_ble_eq_true rfl⟩ rfl (Nat.le_of_ble_eq_true rfl) (by decide +kernel) ?_
  refine g_blk (pc' := 15) (loc' := [some (vR (2, 0, h)), some (vI a), some (vI b)]) (st' := [vI (2 : Int32), vI a, vR (0, 2, h), vI (cl (habs σ h) 2 b (2 : Int32))]) (σ' := σ) fl1_ok [(9, .aload_n 0), (10, .getfield 23), (13, .iload_n 1), (14, .iconst 2)] (by decide +kernel) rfl rfl ?_
  refine g_callVp (0, 2, h) [vI a, vI (2 : Int32)] [vI (cl (habs σ h) 2 b (2 : Int32))] vl_RX1_58 mi_X3_cell (ct_cell l hH 2 (by decide) a (2 : Int32)) rfl rfl rfl rfl ⟨Nat.le_of_ble_eq_true rfl, Nat.le_of_ble_eq_true rfl⟩ rfl (Nat.le_of_ble_eq_true rfl) (by decide +kernel) ?_
  refine g_blk (pc' := 19) (loc' := [some (vR (2, 0, h)), some (vI a), some (vI b)]) (st' := [vI ((cl (habs σ h) 2 b (2 : Int32)) - (cl (habs σ h) 2 a (2 : Int32)))]) (σ' := σ) fl1_ok [(18, .isub)] (by decide +kernel) rfl rfl ?_
  exact g_iret (by decide +kernel) (by exact ⟨rfl, rfl⟩)
set_option maxHeartbeats 2000000 in
theorem c_X1_rateOf (l : Launch) {σ : Sg} {h : Nat} (hH : HOK σ h) (r x : Int32) : Con l 1 yX1_rateOf cX1_rateOf 4 (some .int) [vR (2, 0, h), vI r, vI x] σ (pureP (rateS (habs σ h) r x) σ) := by
  refine con_of pn_X1_rateOf (Nat.le_of_ble_eq_true rfl) (fun hPK hok => ?_)
  show G l (Rm 1) RX1 cX1_rateOf 4 (some .int) _ 0 [some (vR (2, 0, h)), some (vI r), some (vI x), none] [] σ
  refine g_blk (pc' := 6) (loc' := [some (vR (2, 0, h)), some (vI r), some (vI x), none]) (st' := [vI (0 : Int32), vI r, vR (0, 0, h)]) (σ' := σ) fl1_ok [(0, .aload_n 0), (1, .getfield 16), (4, .iload_n 1), (5, .iconst 0)] (by decide +kernel) rfl rfl ?_
  refine g_callVp (0, 0, h) [vI r, vI (0 : Int32)] [] vl_RX1_58 mi_X3_cell (ct_cell l hH 0 (by decide) r (0 : Int32)) rfl rfl rfl rfl ⟨Nat.le_of_ble_eq_true rfl, Nat.le_of_ble_eq_true rfl⟩ rfl (Nat.le_of_ble_eq_true rfl) (by decide +kernel) ?_
  refine g_blk (pc' := 11) (loc' := [some (vR (2, 0, h)), some (vI r), some (vI x), some (vI (cl (habs σ h) 0 r (0 : Int32)))]) (st' := [vI (cl (habs σ h) 0 r (0 : Int32))]) (σ' := σ) fl1_ok [(9, .istore_n 3), (10, .iload_n 3)] (by decide +kernel) rfl rfl ?_
  refine g_if_le (off := 13) (tgt := 24) (by decide +kernel) (by decide) (fun c11 => ?_) (fun c11 => ?_)
  · refine g_blk (pc' := 25) (loc' := [some (vR (2, 0, h)), some (vI r), some (vI x), some (vI (cl (habs σ h) 0 r (0 : Int32)))]) (st' := [vI (0 : Int32)]) (σ' := σ) fl1_ok [(24, .iconst 0)] (by decide +kernel) rfl rfl ?_
    exact g_iret (by decide +kernel) (by rw [rateS, if_pos c11]; exact ⟨rfl, rfl⟩)
  · refine g_blk (pc' := 20) (loc' := [some (vR (2, 0, h)), some (vI r), some (vI x), some (vI (cl (habs σ h) 0 r (0 : Int32)))]) (st' := [vI (cl (habs σ h) 0 r (0 : Int32)), vI ((1000 : Int32) * x)]) (σ' := σ) fl1_ok [(14, .sipush 1000), (17, .iload_n 2), (18, .imul), (19, .iload_n 3)] (by decide +kernel) rfl rfl ?_
    refine g_idiv (hy := fun z => zc11 (by rw [z]; decide)) (hd := by decide +kernel) (k := ?_)
    refine g_blk (pc' := 25) (loc' := [some (vR (2, 0, h)), some (vI r), some (vI x), some (vI (cl (habs σ h) 0 r (0 : Int32)))]) (st' := [vI (((1000 : Int32) * x) / (cl (habs σ h) 0 r (0 : Int32)))]) (σ' := σ) fl1_ok [(21, .goto 4)] (by decide +kernel) rfl rfl ?_
    exact g_iret (by decide +kernel) (by rw [rateS, if_neg c11]; exact ⟨rfl, rfl⟩)
