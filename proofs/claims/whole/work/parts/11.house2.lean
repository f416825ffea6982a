/-! HOUSE: writers (laid by wip/whole/mk12.py) -/
set_option maxHeartbeats 2000000 in
theorem c_X1_clean (l : Launch) {σ : Sg} {h : Nat} (a : Int32) (hH : HOK σ h) : Con l 2 yX1_clean cX1_clean 2 none [vR (2, 0, h), vI a] σ (fun o σ' => o = none ∧ HW h (cleanS (habs σ h) a) σ σ') := by
  refine con_of pn_X1_clean (Nat.le_of_ble_eq_true rfl) (fun hPK hok => ?_)
  show G l (Rm 2) RX1 cX1_clean 2 none _ 0 [some (vR (2, 0, h)), some (vI a)] [] σ
  refine g_blk (pc' := 7) (loc' := [some (vR (2, 0, h)), some (vI a)]) (st' := [vI (0 : Int32), vI (3 : Int32), vI a, vR (0, 1, h)]) (σ' := σ) fl1_ok [(0, .aload_n 0), (1, .getfield 20), (4, .iload_n 1), (5, .iconst 3), (6, .iconst 0)] (by decide +kernel) rfl rfl ?_
  refine g_callV (0, 1, h) [vI a, vI (3 : Int32), vI (0 : Int32)] [] vl_RX1_36 mi_X3_write (ct_write l hH 1 (by decide) a (3 : Int32) (0 : Int32)) rfl rfl rfl rfl ⟨Nat.le_of_ble_eq_true rfl, Nat.le_of_ble_eq_true rfl⟩ rfl (Nat.le_of_ble_eq_true rfl) (by decide +kernel) (fun o σ1 hPσ1 => ?_)
  obtain ⟨rfl, hWσ1⟩ := hPσ1
  refine g_blk (pc' := 17) (loc' := [some (vR (2, 0, h)), some (vI a)]) (st' := [vI (1 : Int32), vI (4 : Int32), vI a, vR (0, 1, h)]) (σ' := σ1) fl1_ok [(10, .aload_n 0), (11, .getfield 20), (14, .iload_n 1), (15, .iconst 4), (16, .iconst 1)] (by decide +kernel) rfl rfl ?_
  refine g_callV (0, 1, h) [vI a, vI (4 : Int32), vI (1 : Int32)] [] vl_RX1_74 mi_X3_increase (ct_increase l hWσ1.2.1 1 (by decide) a (4 : Int32) (1 : Int32)) rfl rfl rfl rfl ⟨Nat.le_of_ble_eq_true rfl, Nat.le_of_ble_eq_true rfl⟩ rfl (Nat.le_of_ble_eq_true rfl) (by decide +kernel) (fun o σ2 hPσ2 => ?_)
  obtain ⟨rfl, hWσ2⟩ := hPσ2
  exact g_vret (by decide +kernel) ⟨rfl, ⟨by rw [hWσ2.1, hWσ1.1] <;> rfl, hWσ2.2.1, (hWσ1.2.2).tr hWσ2.2.2⟩⟩
set_option maxHeartbeats 2000000 in
theorem c_X1_addResident (l : Launch) {σ : Sg} {h : Nat} (w : Int32) (hH : HOK σ h) (hn : sz (habs σ h) 0 < 8) : Con l 2 yX1_addResident cX1_addResident 3 (some .int) [vR (2, 0, h), vI w] σ (fun o σ' => o = some (vI (nI (sz (habs σ h) 0))) ∧ HW h (addResS (habs σ h) w) σ σ') := by
  refine con_of pn_X1_addResident (Nat.le_of_ble_eq_true rfl) (fun hPK hok => ?_)
  show G l (Rm 2) RX1 cX1_addResident 3 (some .int) _ 0 [some (vR (2, 0, h)), some (vI w), none] [] σ
  refine g_blk (pc' := 4) (loc' := [some (vR (2, 0, h)), some (vI w), none]) (st' := [vR (0, 0, h)]) (σ' := σ) fl1_ok [(0, .aload_n 0), (1, .getfield 16)] (by decide +kernel) rfl rfl ?_
  refine g_callV (0, 0, h) [] [] vl_RX1_32 mi_X3_append (ct_append l hH 0 (by decide) hn) rfl rfl rfl rfl ⟨Nat.le_of_ble_eq_true rfl, Nat.le_of_ble_eq_true rfl⟩ rfl (Nat.le_of_ble_eq_true rfl) (by decide +kernel) (fun o σ1 hPσ1 => ?_)
  obtain ⟨rfl, hWσ1⟩ := hPσ1
  refine g_blk (pc' := 15) (loc' := [some (vR (2, 0, h)), some (vI w), some (vI (nI (sz (habs σ h) 0)))]) (st' := [vI w, vI (0 : Int32), vI (nI (sz (habs σ h) 0)), vR (0, 0, h)]) (σ' := σ1) fl1_ok [(7, .istore_n 2), (8, .aload_n 0), (9, .getfield 16), (12, .iload_n 2), (13, .iconst 0), (14, .iload_n 1)] (by decide +kernel) rfl rfl ?_
  refine g_callV (0, 0, h) [vI (nI (sz (habs σ h) 0)), vI (0 : Int32), vI w] [] vl_RX1_36 mi_X3_write (ct_write l hWσ1.2.1 0 (by decide) (nI (sz (habs σ h) 0)) (0 : Int32) w) rfl rfl rfl rfl ⟨Nat.le_of_ble_eq_true rfl, Nat.le_of_ble_eq_true rfl⟩ rfl (Nat.le_of_ble_eq_true rfl) (by decide +kernel) (fun o σ2 hPσ2 => ?_)
  obtain ⟨rfl, hWσ2⟩ := hPσ2
  refine g_blk (pc' := 25) (loc' := [some (vR (2, 0, h)), some (vI w), some (vI (nI (sz (habs σ h) 0)))]) (st' := [vI (0 : Int32), vI (1 : Int32), vI (nI (sz (habs σ h) 0)), vR (0, 0, h)]) (σ' := σ2) fl1_ok [(18, .aload_n 0), (19, .getfield 16), (22, .iload_n 2), (23, .iconst 1), (24, .iconst 0)] (by decide +kernel) rfl rfl ?_
  refine g_callV (0, 0, h) [vI (nI (sz (habs σ h) 0)), vI (1 : Int32), vI (0 : Int32)] [] vl_RX1_36 mi_X3_write (ct_write l hWσ2.2.1 0 (by decide) (nI (sz (habs σ h) 0)) (1 : Int32) (0 : Int32)) rfl rfl rfl rfl ⟨Nat.le_of_ble_eq_true rfl, Nat.le_of_ble_eq_true rfl⟩ rfl (Nat.le_of_ble_eq_true rfl) (by decide +kernel) (fun o σ3 hPσ3 => ?_)
  obtain ⟨rfl, hWσ3⟩ := hPσ3
  refine g_blk (pc' := 35) (loc' := [some (vR (2, 0, h)), some (vI w), some (vI (nI (sz (habs σ h) 0)))]) (st' := [vI (-1 : Int32), vI (2 : Int32), vI (nI (sz (habs σ h) 0)), vR (0, 0, h)]) (σ' := σ3) fl1_ok [(28, .aload_n 0), (29, .getfield 16), (32, .iload_n 2), (33, .iconst 2), (34, .iconst (-1))] (by decide +kernel) rfl rfl ?_
  refine g_callV (0, 0, h) [vI (nI (sz (habs σ h) 0)), vI (2 : Int32), vI (-1 : Int32)] [] vl_RX1_36 mi_X3_write (ct_write l hWσ3.2.1 0 (by decide) (nI (sz (habs σ h) 0)) (2 : Int32) (-1 : Int32)) rfl rfl rfl rfl ⟨Nat.le_of_ble_eq_true rfl, Nat.le_of_ble_eq_true rfl⟩ rfl (Nat.le_of_ble_eq_true rfl) (by decide +kernel) (fun o σ4 hPσ4 => ?_)
  obtain ⟨rfl, hWσ4⟩ := hPσ4
  refine g_blk (pc' := 39) (loc' := [some (vR (2, 0, h)), some (vI w), some (vI (nI (sz (habs σ h) 0)))]) (st' := [vI (nI (sz (habs σ h) 0))]) (σ' := σ4) fl1_ok [(38, .iload_n 2)] (by decide +kernel) rfl rfl ?_
  exact g_iret (by decide +kernel) ⟨rfl, ⟨by rw [hWσ4.1, hWσ3.1, hWσ2.1, hWσ1.1] <;> rfl, hWσ4.2.1, (((hWσ1.2.2).tr hWσ2.2.2).tr hWσ3.2.2).tr hWσ4.2.2⟩⟩
set_option maxHeartbeats 2000000 in
theorem c_X1_addArea (l : Launch) {σ : Sg} {h : Nat} (e p g : Int32) (hH : HOK σ h) (hn : sz (habs σ h) 1 < 6) : Con l 2 yX1_addArea cX1_addArea 5 (some .int) [vR (2, 0, h), vI e, vI p, vI g] σ (fun o σ' => o = some (vI (nI (sz (habs σ h) 1))) ∧ HW h (addAreaS (habs σ h) e p g) σ σ') := by
  refine con_of pn_X1_addArea (Nat.le_of_ble_eq_true rfl) (fun hPK hok => ?_)
  show G l (Rm 2) RX1 cX1_addArea 5 (some .int) _ 0 [some (vR (2, 0, h)), some (vI e), some (vI p), some (vI g), none] [] σ
  refine g_blk (pc' := 4) (loc' := [some (vR (2, 0, h)), some (vI e), some (vI p), some (vI g), none]) (st' := [vR (0, 1, h)]) (σ' := σ) fl1_ok [(0, .aload_n 0), (1, .getfield 20)] (by decide +kernel) rfl rfl ?_
  refine g_callV (0, 1, h) [] [] vl_RX1_32 mi_X3_append (ct_append l hH 1 (by decide) hn) rfl rfl rfl rfl ⟨Nat.le_of_ble_eq_true rfl, Nat.le_of_ble_eq_true rfl⟩ rfl (Nat.le_of_ble_eq_true rfl) (by decide +kernel) (fun o σ1 hPσ1 => ?_)
  obtain ⟨rfl, hWσ1⟩ := hPσ1
  refine g_blk (pc' := 17) (loc' := [some (vR (2, 0, h)), some (vI e), some (vI p), some (vI g), some (vI (nI (sz (habs σ h) 1)))]) (st' := [vI e, vI (0 : Int32), vI (nI (sz (habs σ h) 1)), vR (0, 1, h)]) (σ' := σ1) fl1_ok [(7, .istore 4), (9, .aload_n 0), (10, .getfield 20), (13, .iload 4), (15, .iconst 0), (16, .iload_n 1)] (by decide +kernel) rfl rfl ?_
  refine g_callV (0, 1, h) [vI (nI (sz (habs σ h) 1)), vI (0 : Int32), vI e] [] vl_RX1_36 mi_X3_write (ct_write l hWσ1.2.1 1 (by decide) (nI (sz (habs σ h) 1)) (0 : Int32) e) rfl rfl rfl rfl ⟨Nat.le_of_ble_eq_true rfl, Nat.le_of_ble_eq_true rfl⟩ rfl (Nat.le_of_ble_eq_true rfl) (by decide +kernel) (fun o σ2 hPσ2 => ?_)
  obtain ⟨rfl, hWσ2⟩ := hPσ2
  refine g_blk (pc' := 28) (loc' := [some (vR (2, 0, h)), some (vI e), some (vI p), some (vI g), some (vI (nI (sz (habs σ h) 1)))]) (st' := [vI p, vI (1 : Int32), vI (nI (sz (habs σ h) 1)), vR (0, 1, h)]) (σ' := σ2) fl1_ok [(20, .aload_n 0), (21, .getfield 20), (24, .iload 4), (26, .iconst 1), (27, .iload_n 2)] (by decide +kernel) rfl rfl ?_
  refine g_callV (0, 1, h) [vI (nI (sz (habs σ h) 1)), vI (1 : Int32), vI p] [] vl_RX1_36 mi_X3_write (ct_write l hWσ2.2.1 1 (by decide) (nI (sz (habs σ h) 1)) (1 : Int32) p) rfl rfl rfl rfl ⟨Nat.le_of_ble_eq_true rfl, Nat.le_of_ble_eq_true rfl⟩ rfl (Nat.le_of_ble_eq_true rfl) (by decide +kernel) (fun o σ3 hPσ3 => ?_)
  obtain ⟨rfl, hWσ3⟩ := hPσ3
  refine g_blk (pc' := 39) (loc' := [some (vR (2, 0, h)), some (vI e), some (vI p), some (vI g), some (vI (nI (sz (habs σ h) 1)))]) (st' := [vI g, vI (2 : Int32), vI (nI (sz (habs σ h) 1)), vR (0, 1, h)]) (σ' := σ3) fl1_ok [(31, .aload_n 0), (32, .getfield 20), (35, .iload 4), (37, .iconst 2), (38, .iload_n 3)] (by decide +kernel) rfl rfl ?_
  refine g_callV (0, 1, h) [vI (nI (sz (habs σ h) 1)), vI (2 : Int32), vI g] [] vl_RX1_36 mi_X3_write (ct_write l hWσ3.2.1 1 (by decide) (nI (sz (habs σ h) 1)) (2 : Int32) g) rfl rfl rfl rfl ⟨Nat.le_of_ble_eq_true rfl, Nat.le_of_ble_eq_true rfl⟩ rfl (Nat.le_of_ble_eq_true rfl) (by decide +kernel) (fun o σ4 hPσ4 => ?_)
  obtain ⟨rfl, hWσ4⟩ := hPσ4
  refine g_blk (pc' := 44) (loc' := [some (vR (2, 0, h)), some (vI e), some (vI p), some (vI g), some (vI (nI (sz (habs σ h) 1)))]) (st' := [vI (nI (sz (habs σ h) 1))]) (σ' := σ4) fl1_ok [(42, .iload 4)] (by decide +kernel) rfl rfl ?_
  exact g_iret (by decide +kernel) ⟨rfl, ⟨by rw [hWσ4.1, hWσ3.1, hWσ2.1, hWσ1.1] <;> rfl, hWσ4.2.1, (((hWσ1.2.2).tr hWσ2.2.2).tr hWσ3.2.2).tr hWσ4.2.2⟩⟩
set_option maxHeartbeats 2000000 in
theorem c_X1_addTask (l : Launch) {σ : Sg} {h : Nat} (a e d : Int32) (hH : HOK σ h) (hn : sz (habs σ h) 2 < 12) : Con l 2 yX1_addTask cX1_addTask 5 none [vR (2, 0, h), vI a, vI e, vI d] σ (fun o σ' => o = none ∧ HW h (addTS (habs σ h) a e d) σ σ') := by
  refine con_of pn_X1_addTask (Nat.le_of_ble_eq_true rfl) (fun hPK hok => ?_)
  show G l (Rm 2) RX1 cX1_addTask 5 none _ 0 [some (vR (2, 0, h)), some (vI a), some (vI e), some (vI d), none] [] σ
  refine g_blk (pc' := 4) (loc' := [some (vR (2, 0, h)), some (vI a), some (vI e), some (vI d), none]) (st' := [vR (0, 2, h)]) (σ' := σ) fl1_ok [(0, .aload_n 0), (1, .getfield 23)] (by decide +kernel) rfl rfl ?_
  refine g_callV (0, 2, h) [] [] vl_RX1_32 mi_X3_append (ct_append l hH 2 (by decide) hn) rfl rfl rfl rfl ⟨Nat.le_of_ble_eq_true rfl, Nat.le_of_ble_eq_true rfl⟩ rfl (Nat.le_of_ble_eq_true rfl) (by decide +kernel) (fun o σ1 hPσ1 => ?_)
  obtain ⟨rfl, hWσ1⟩ := hPσ1
  refine g_blk (pc' := 17) (loc' := [some (vR (2, 0, h)), some (vI a), some (vI e), some (vI d), some (vI (nI (sz (habs σ h) 2)))]) (st' := [vI a, vI (0 : Int32), vI (nI (sz (habs σ h) 2)), vR (0, 2, h)]) (σ' := σ1) fl1_ok [(7, .istore 4), (9, .aload_n 0), (10, .getfield 23), (13, .iload 4), (15, .iconst 0), (16, .iload_n 1)] (by decide +kernel) rfl rfl ?_
  refine g_callV (0, 2, h) [vI (nI (sz (habs σ h) 2)), vI (0 : Int32), vI a] [] vl_RX1_36 mi_X3_write (ct_write l hWσ1.2.1 2 (by decide) (nI (sz (habs σ h) 2)) (0 : Int32) a) rfl rfl rfl rfl ⟨Nat.le_of_ble_eq_true rfl, Nat.le_of_ble_eq_true rfl⟩ rfl (Nat.le_of_ble_eq_true rfl) (by decide +kernel) (fun o σ2 hPσ2 => ?_)
  obtain ⟨rfl, hWσ2⟩ := hPσ2
  refine g_blk (pc' := 28) (loc' := [some (vR (2, 0, h)), some (vI a), some (vI e), some (vI d), some (vI (nI (sz (habs σ h) 2)))]) (st' := [vI e, vI (2 : Int32), vI (nI (sz (habs σ h) 2)), vR (0, 2, h)]) (σ' := σ2) fl1_ok [(20, .aload_n 0), (21, .getfield 23), (24, .iload 4), (26, .iconst 2), (27, .iload_n 2)] (by decide +kernel) rfl rfl ?_
  refine g_callV (0, 2, h) [vI (nI (sz (habs σ h) 2)), vI (2 : Int32), vI e] [] vl_RX1_36 mi_X3_write (ct_write l hWσ2.2.1 2 (by decide) (nI (sz (habs σ h) 2)) (2 : Int32) e) rfl rfl rfl rfl ⟨Nat.le_of_ble_eq_true rfl, Nat.le_of_ble_eq_true rfl⟩ rfl (Nat.le_of_ble_eq_true rfl) (by decide +kernel) (fun o σ3 hPσ3 => ?_)
  obtain ⟨rfl, hWσ3⟩ := hPσ3
  refine g_blk (pc' := 39) (loc' := [some (vR (2, 0, h)), some (vI a), some (vI e), some (vI d), some (vI (nI (sz (habs σ h) 2)))]) (st' := [vI d, vI (4 : Int32), vI (nI (sz (habs σ h) 2)), vR (0, 2, h)]) (σ' := σ3) fl1_ok [(31, .aload_n 0), (32, .getfield 23), (35, .iload 4), (37, .iconst 4), (38, .iload_n 3)] (by decide +kernel) rfl rfl ?_
  refine g_callNp (idx := 104) [vI d] [vI (4 : Int32), vI (nI (sz (habs σ h) 2)), vR (0, 2, h)] (by decide +kernel) nl_X4_bit mi_X4_bit (c_X4_bit l d) rfl ⟨Nat.le_of_ble_eq_true rfl, Nat.le_of_ble_eq_true rfl⟩ rfl (Nat.le_of_ble_eq_true rfl) (by decide +kernel) ?_
  refine g_callV (0, 2, h) [vI (nI (sz (habs σ h) 2)), vI (4 : Int32), vI (bitS d)] [] vl_RX1_36 mi_X3_write (ct_write l hWσ3.2.1 2 (by decide) (nI (sz (habs σ h) 2)) (4 : Int32) (bitS d)) rfl rfl rfl rfl ⟨Nat.le_of_ble_eq_true rfl, Nat.le_of_ble_eq_true rfl⟩ rfl (Nat.le_of_ble_eq_true rfl) (by decide +kernel) (fun o σ4 hPσ4 => ?_)
  obtain ⟨rfl, hWσ4⟩ := hPσ4
  exact g_vret (by decide +kernel) ⟨rfl, ⟨by rw [hWσ4.1, hWσ3.1, hWσ2.1, hWσ1.1] <;> rfl, hWσ4.2.1, (((hWσ1.2.2).tr hWσ2.2.2).tr hWσ3.2.2).tr hWσ4.2.2⟩⟩
set_option maxHeartbeats 2000000 in
theorem c_X1_addSwap (l : Launch) {σ : Sg} {h : Nat} (a b : Int32) (hH : HOK σ h) (hn : sz (habs σ h) 3 < 6) : Con l 2 yX1_addSwap cX1_addSwap 4 (some .int) [vR (2, 0, h), vI a, vI b] σ (fun o σ' => o = some (vI (nI (sz (addSwS (habs σ h) a b) 3))) ∧ HW h (addSwS (habs σ h) a b) σ σ') := by
  refine con_of pn_X1_addSwap (Nat.le_of_ble_eq_true rfl) (fun hPK hok => ?_)
  show G l (Rm 2) RX1 cX1_addSwap 4 (some .int) _ 0 [some (vR (2, 0, h)), some (vI a), some (vI b), none] [] σ
  refine g_blk (pc' := 4) (loc' := [some (vR (2, 0, h)), some (vI a), some (vI b), none]) (st' := [vR (0, 3, h)]) (σ' := σ) fl1_ok [(0, .aload_n 0), (1, .getfield 26)] (by decide +kernel) rfl rfl ?_
  refine g_callV (0, 3, h) [] [] vl_RX1_32 mi_X3_append (ct_append l hH 3 (by decide) hn) rfl rfl rfl rfl ⟨Nat.le_of_ble_eq_true rfl, Nat.le_of_ble_eq_true rfl⟩ rfl (Nat.le_of_ble_eq_true rfl) (by decide +kernel) (fun o σ1 hPσ1 => ?_)
  obtain ⟨rfl, hWσ1⟩ := hPσ1
  refine g_blk (pc' := 15) (loc' := [some (vR (2, 0, h)), some (vI a), some (vI b), some (vI (nI (sz (habs σ h) 3)))]) (st' := [vI a, vI (0 : Int32), vI (nI (sz (habs σ h) 3)), vR (0, 3, h)]) (σ' := σ1) fl1_ok [(7, .istore_n 3), (8, .aload_n 0), (9, .getfield 26), (12, .iload_n 3), (13, .iconst 0), (14, .iload_n 1)] (by decide +kernel) rfl rfl ?_
  refine g_callV (0, 3, h) [vI (nI (sz (habs σ h) 3)), vI (0 : Int32), vI a] [] vl_RX1_36 mi_X3_write (ct_write l hWσ1.2.1 3 (by decide) (nI (sz (habs σ h) 3)) (0 : Int32) a) rfl rfl rfl rfl ⟨Nat.le_of_ble_eq_true rfl, Nat.le_of_ble_eq_true rfl⟩ rfl (Nat.le_of_ble_eq_true rfl) (by decide +kernel) (fun o σ2 hPσ2 => ?_)
  obtain ⟨rfl, hWσ2⟩ := hPσ2
  refine g_blk (pc' := 25) (loc' := [some (vR (2, 0, h)), some (vI a), some (vI b), some (vI (nI (sz (habs σ h) 3)))]) (st' := [vI b, vI (1 : Int32), vI (nI (sz (habs σ h) 3)), vR (0, 3, h)]) (σ' := σ2) fl1_ok [(18, .aload_n 0), (19, .getfield 26), (22, .iload_n 3), (23, .iconst 1), (24, .iload_n 2)] (by decide +kernel) rfl rfl ?_
  refine g_callV (0, 3, h) [vI (nI (sz (habs σ h) 3)), vI (1 : Int32), vI b] [] vl_RX1_36 mi_X3_write (ct_write l hWσ2.2.1 3 (by decide) (nI (sz (habs σ h) 3)) (1 : Int32) b) rfl rfl rfl rfl ⟨Nat.le_of_ble_eq_true rfl, Nat.le_of_ble_eq_true rfl⟩ rfl (Nat.le_of_ble_eq_true rfl) (by decide +kernel) (fun o σ3 hPσ3 => ?_)
  obtain ⟨rfl, hWσ3⟩ := hPσ3
  refine g_blk (pc' := 32) (loc' := [some (vR (2, 0, h)), some (vI a), some (vI b), some (vI (nI (sz (habs σ h) 3)))]) (st' := [vR (0, 3, h)]) (σ' := σ3) fl1_ok [(28, .aload_n 0), (29, .getfield 26)] (by decide +kernel) rfl rfl ?_
  refine g_callVp (0, 3, h) [] [] vl_RX1_66 mi_X3_size (ct_size l hWσ3.2.1 3 (by decide)) rfl rfl rfl rfl ⟨Nat.le_of_ble_eq_true rfl, Nat.le_of_ble_eq_true rfl⟩ rfl (Nat.le_of_ble_eq_true rfl) (by decide +kernel) ?_
  exact g_iret (by decide +kernel) ⟨by rw [hWσ3.1, hWσ2.1, hWσ1.1] <;> rfl, ⟨by rw [hWσ3.1, hWσ2.1, hWσ1.1] <;> rfl, hWσ3.2.1, ((hWσ1.2.2).tr hWσ2.2.2).tr hWσ3.2.2⟩⟩
set_option maxHeartbeats 2000000 in
theorem c_X1_declineSwap (l : Launch) {σ : Sg} {h r : Nat} (hH : HOK σ h) (hn : r < sz (habs σ h) 3) : Con l 2 yX1_declineSwap cX1_declineSwap 2 (some .int) [vR (2, 0, h), vI (nI r)] σ (fun o σ' => o = some (vI (nI (sz (habs σ h) 3 - 1))) ∧ HW h (setT (habs σ h) 3 (trem ((habs σ h).1 3) r)) σ σ') := by
  refine con_of pn_X1_declineSwap (Nat.le_of_ble_eq_true rfl) (fun hPK hok => ?_)
  show G l (Rm 2) RX1 cX1_declineSwap 2 (some .int) _ 0 [some (vR (2, 0, h)), some (vI (nI r))] [] σ
  refine g_blk (pc' := 5) (loc' := [some (vR (2, 0, h)), some (vI (nI r))]) (st' := [vI (nI r), vR (0, 3, h)]) (σ' := σ) fl1_ok [(0, .aload_n 0), (1, .getfield 26), (4, .iload_n 1)] (by decide +kernel) rfl rfl ?_
  refine g_callV (0, 3, h) [vI (nI r)] [] vl_RX1_164 mi_X3_remove (ct_remove l hH 3 (by decide) hn) rfl rfl rfl rfl ⟨Nat.le_of_ble_eq_true rfl, Nat.le_of_ble_eq_true rfl⟩ rfl (Nat.le_of_ble_eq_true rfl) (by decide +kernel) (fun o σ1 hPσ1 => ?_)
  obtain ⟨rfl, hWσ1⟩ := hPσ1
  refine g_blk (pc' := 12) (loc' := [some (vR (2, 0, h)), some (vI (nI r))]) (st' := [vR (0, 3, h)]) (σ' := σ1) fl1_ok [(8, .aload_n 0), (9, .getfield 26)] (by decide +kernel) rfl rfl ?_
  refine g_callVp (0, 3, h) [] [] vl_RX1_66 mi_X3_size (ct_size l hWσ1.2.1 3 (by decide)) rfl rfl rfl rfl ⟨Nat.le_of_ble_eq_true rfl, Nat.le_of_ble_eq_true rfl⟩ rfl (Nat.le_of_ble_eq_true rfl) (by decide +kernel) ?_
  exact g_iret (by decide +kernel) ⟨by rw [hWσ1.1] <;> rfl, ⟨by rw [hWσ1.1] <;> rfl, hWσ1.2.1, hWσ1.2.2⟩⟩
set_option maxHeartbeats 2000000 in
theorem c_X1_payDebt (l : Launch) {σ : Sg} {h : Nat} (r a : Int32) (hH : HOK σ h) : Con l 3 yX1_payDebt cX1_payDebt 4 (some .int) [vR (2, 0, h), vI r, vI a] σ (fun o σ' => o = some (vI (cl (payS (habs σ h) r a) 0 r 4)) ∧ HW h (payS (habs σ h) r a) σ σ') := by
  refine con_of pn_X1_payDebt (Nat.le_of_ble_eq_true rfl) (fun hPK hok => ?_)
  show G l (Rm 3) RX1 cX1_payDebt 4 (some .int) _ 0 [some (vR (2, 0, h)), some (vI r), some (vI a), none] [] σ
  refine g_blk (pc' := 6) (loc' := [some (vR (2, 0, h)), some (vI r), some (vI a), none]) (st' := [vI (0 : Int32), vI a, vR (0, 1, h)]) (σ' := σ) fl1_ok [(0, .aload_n 0), (1, .getfield 20), (4, .iload_n 2), (5, .iconst 0)] (by decide +kernel) rfl rfl ?_
  refine g_callVp (0, 1, h) [vI a, vI (0 : Int32)] [] vl_RX1_58 mi_X3_cell (ct_cell l hH 1 (by decide) a (0 : Int32)) rfl rfl rfl rfl ⟨Nat.le_of_ble_eq_true rfl, Nat.le_of_ble_eq_true rfl⟩ rfl (Nat.le_of_ble_eq_true rfl) (by decide +kernel) ?_
  refine g_blk (pc' := 15) (loc' := [some (vR (2, 0, h)), some (vI r), some (vI a), none]) (st' := [vI (4 : Int32), vI r, vR (0, 0, h), vI (cl (habs σ h) 1 a (0 : Int32))]) (σ' := σ) fl1_ok [(9, .aload_n 0), (10, .getfield 16), (13, .iload_n 1), (14, .iconst 4)] (by decide +kernel) rfl rfl ?_
  refine g_callVp (0, 0, h) [vI r, vI (4 : Int32)] [vI (cl (habs σ h) 1 a (0 : Int32))] vl_RX1_58 mi_X3_cell (ct_cell l hH 0 (by decide) r (4 : Int32)) rfl rfl rfl rfl ⟨Nat.le_of_ble_eq_true rfl, Nat.le_of_ble_eq_true rfl⟩ rfl (Nat.le_of_ble_eq_true rfl) (by decide +kernel) ?_
  refine g_min jl_RX1_146 ⟨Nat.le_of_ble_eq_true rfl, Nat.le_of_ble_eq_true rfl⟩ (by decide +kernel) ?_
  refine g_blk (pc' := 30) (loc' := [some (vR (2, 0, h)), some (vI r), some (vI a), some (vI (if (cl (habs σ h) 0 r (4 : Int32)) < (cl (habs σ h) 1 a (0 : Int32)) then (cl (habs σ h) 0 r (4 : Int32)) else (cl (habs σ h) 1 a (0 : Int32))))]) (st' := [vI (-(if (cl (habs σ h) 0 r (4 : Int32)) < (cl (habs σ h) 1 a (0 : Int32)) then (cl (habs σ h) 0 r (4 : Int32)) else (cl (habs σ h) 1 a (0 : Int32)))), vI (4 : Int32), vI r, vR (0, 0, h)]) (σ' := σ) fl1_ok [(21, .istore_n 3), (22, .aload_n 0), (23, .getfield 16), (26, .iload_n 1), (27, .iconst 4), (28, .iload_n 3), (29, .ineg)] (by decide +kernel) rfl rfl ?_
  refine g_callV (0, 0, h) [vI r, vI (4 : Int32), vI (-(if (cl (habs σ h) 0 r (4 : Int32)) < (cl (habs σ h) 1 a (0 : Int32)) then (cl (habs σ h) 0 r (4 : Int32)) else (cl (habs σ h) 1 a (0 : Int32))))] [] vl_RX1_74 mi_X3_increase (ct_increase l hH 0 (by decide) r (4 : Int32) (-(if (cl (habs σ h) 0 r (4 : Int32)) < (cl (habs σ h) 1 a (0 : Int32)) then (cl (habs σ h) 0 r (4 : Int32)) else (cl (habs σ h) 1 a (0 : Int32))))) rfl rfl rfl rfl ⟨Nat.le_of_ble_eq_true rfl, Nat.le_of_ble_eq_true rfl⟩ rfl (Nat.le_of_ble_eq_true rfl) (by decide +kernel) (fun o σ1 hPσ1 => ?_)
  obtain ⟨rfl, hWσ1⟩ := hPσ1
  refine g_blk (pc' := 40) (loc' := [some (vR (2, 0, h)), some (vI r), some (vI a), some (vI (if (cl (habs σ h) 0 r (4 : Int32)) < (cl (habs σ h) 1 a (0 : Int32)) then (cl (habs σ h) 0 r (4 : Int32)) else (cl (habs σ h) 1 a (0 : Int32))))]) (st' := [vI (if (cl (habs σ h) 0 r (4 : Int32)) < (cl (habs σ h) 1 a (0 : Int32)) then (cl (habs σ h) 0 r (4 : Int32)) else (cl (habs σ h) 1 a (0 : Int32))), vI (3 : Int32), vI r, vR (0, 0, h)]) (σ' := σ1) fl1_ok [(33, .aload_n 0), (34, .getfield 16), (37, .iload_n 1), (38, .iconst 3), (39, .iload_n 3)] (by decide +kernel) rfl rfl ?_
  refine g_callV (0, 0, h) [vI r, vI (3 : Int32), vI (if (cl (habs σ h) 0 r (4 : Int32)) < (cl (habs σ h) 1 a (0 : Int32)) then (cl (habs σ h) 0 r (4 : Int32)) else (cl (habs σ h) 1 a (0 : Int32)))] [] vl_RX1_74 mi_X3_increase (ct_increase l hWσ1.2.1 0 (by decide) r (3 : Int32) (if (cl (habs σ h) 0 r (4 : Int32)) < (cl (habs σ h) 1 a (0 : Int32)) then (cl (habs σ h) 0 r (4 : Int32)) else (cl (habs σ h) 1 a (0 : Int32)))) rfl rfl rfl rfl ⟨Nat.le_of_ble_eq_true rfl, Nat.le_of_ble_eq_true rfl⟩ rfl (Nat.le_of_ble_eq_true rfl) (by decide +kernel) (fun o σ2 hPσ2 => ?_)
  obtain ⟨rfl, hWσ2⟩ := hPσ2
  refine g_blk (pc' := 45) (loc' := [some (vR (2, 0, h)), some (vI r), some (vI a), some (vI (if (cl (habs σ h) 0 r (4 : Int32)) < (cl (habs σ h) 1 a (0 : Int32)) then (cl (habs σ h) 0 r (4 : Int32)) else (cl (habs σ h) 1 a (0 : Int32))))]) (st' := [vI a, vR (2, 0, h)]) (σ' := σ2) fl1_ok [(43, .aload_n 0), (44, .iload_n 2)] (by decide +kernel) rfl rfl ?_
  refine g_callV (2, 0, h) [vI a] [] vl_RX1_133 mi_X1_clean (c_X1_clean l a hWσ2.2.1) rfl rfl rfl rfl ⟨Nat.le_of_ble_eq_true rfl, Nat.le_of_ble_eq_true rfl⟩ rfl (Nat.le_of_ble_eq_true rfl) (by decide +kernel) (fun o σ3 hPσ3 => ?_)
  obtain ⟨rfl, hWσ3⟩ := hPσ3
  refine g_blk (pc' := 54) (loc' := [some (vR (2, 0, h)), some (vI r), some (vI a), some (vI (if (cl (habs σ h) 0 r (4 : Int32)) < (cl (habs σ h) 1 a (0 : Int32)) then (cl (habs σ h) 0 r (4 : Int32)) else (cl (habs σ h) 1 a (0 : Int32))))]) (st' := [vI (4 : Int32), vI r, vR (0, 0, h)]) (σ' := σ3) fl1_ok [(48, .aload_n 0), (49, .getfield 16), (52, .iload_n 1), (53, .iconst 4)] (by decide +kernel) rfl rfl ?_
  refine g_callVp (0, 0, h) [vI r, vI (4 : Int32)] [] vl_RX1_58 mi_X3_cell (ct_cell l hWσ3.2.1 0 (by decide) r (4 : Int32)) rfl rfl rfl rfl ⟨Nat.le_of_ble_eq_true rfl, Nat.le_of_ble_eq_true rfl⟩ rfl (Nat.le_of_ble_eq_true rfl) (by decide +kernel) ?_
  exact g_iret (by decide +kernel) ⟨by rw [hWσ3.1, hWσ2.1, hWσ1.1] <;> rfl, ⟨by rw [hWσ3.1, hWσ2.1, hWσ1.1] <;> rfl, hWσ3.2.1, ((hWσ1.2.2).tr hWσ2.2.2).tr hWσ3.2.2⟩⟩
set_option maxHeartbeats 2000000 in
theorem c_X1_skip (l : Launch) {σ : Sg} {h : Nat} (t : Int32) (hH : HOK σ h) : Con l 2 yX1_skip cX1_skip 4 none [vR (2, 0, h), vI t] σ (fun o σ' => o = none ∧ HW h (skipS (habs σ h) t) σ σ') := by
  refine con_of pn_X1_skip (Nat.le_of_ble_eq_true rfl) (fun hPK hok => ?_)
  show G l (Rm 2) RX1 cX1_skip 4 none _ 0 [some (vR (2, 0, h)), some (vI t), none, none] [] σ
  refine g_blk (pc' := 6) (loc' := [some (vR (2, 0, h)), some (vI t), none, none]) (st' := [vI (2 : Int32), vI t, vR (0, 2, h)]) (σ' := σ) fl1_ok [(0, .aload_n 0), (1, .getfield 23), (4, .iload_n 1), (5, .iconst 2)] (by decide +kernel) rfl rfl ?_
  refine g_callVp (0, 2, h) [vI t, vI (2 : Int32)] [] vl_RX1_58 mi_X3_cell (ct_cell l hH 2 (by decide) t (2 : Int32)) rfl rfl rfl rfl ⟨Nat.le_of_ble_eq_true rfl, Nat.le_of_ble_eq_true rfl⟩ rfl (Nat.le_of_ble_eq_true rfl) (by decide +kernel) ?_
  refine g_blk (pc' := 16) (loc' := [some (vR (2, 0, h)), some (vI t), some (vI (cl (habs σ h) 2 t (2 : Int32))), none]) (st' := [vI (1 : Int32), vI t, vR (0, 2, h)]) (σ' := σ) fl1_ok [(9, .istore_n 2), (10, .aload_n 0), (11, .getfield 23), (14, .iload_n 1), (15, .iconst 1)] (by decide +kernel) rfl rfl ?_
  refine g_callVp (0, 2, h) [vI t, vI (1 : Int32)] [] vl_RX1_58 mi_X3_cell (ct_cell l hH 2 (by decide) t (1 : Int32)) rfl rfl rfl rfl ⟨Nat.le_of_ble_eq_true rfl, Nat.le_of_ble_eq_true rfl⟩ rfl (Nat.le_of_ble_eq_true rfl) (by decide +kernel) ?_
  refine g_blk (pc' := 30) (loc' := [some (vR (2, 0, h)), some (vI t), some (vI (cl (habs σ h) 2 t (2 : Int32))), some (vI (cl (habs σ h) 2 t (1 : Int32)))]) (st' := []) (σ' := (upd2 σ.1 (2, 0, h) 8 (((habs σ h).2 8) + (1 : Int32)), σ.2)) fl1_ok [(19, .istore_n 3), (20, .aload_n 0), (21, .dup), (22, .getfield 55), (25, .iconst 1), (26, .iadd), (27, .putfield 55)] (by decide +kernel) rfl rfl ?_
  generalize hσ1 : ((upd2 σ.1 (2, 0, h) 8 (((habs σ h).2 8) + (1 : Int32)), σ.2) : Sg) = σ1
  have hWσ1 := hw_F hH (by decide) hσ1
  refine g_blk (pc' := 39) (loc' := [some (vR (2, 0, h)), some (vI t), some (vI (cl (habs σ h) 2 t (2 : Int32))), some (vI (cl (habs σ h) 2 t (1 : Int32)))]) (st' := [vI (-(cl (habs σ h) 2 t (2 : Int32))), vI (6 : Int32), vI (cl (habs σ h) 2 t (1 : Int32)), vR (0, 0, h)]) (σ' := σ1) fl1_ok [(30, .aload_n 0), (31, .getfield 16), (34, .iload_n 3), (35, .bipush 6), (37, .iload_n 2), (38, .ineg)] (by decide +kernel) rfl rfl ?_
  refine g_callV (0, 0, h) [vI (cl (habs σ h) 2 t (1 : Int32)), vI (6 : Int32), vI (-(cl (habs σ h) 2 t (2 : Int32)))] [] vl_RX1_74 mi_X3_increase (ct_increase l hWσ1.2.1 0 (by decide) (cl (habs σ h) 2 t (1 : Int32)) (6 : Int32) (-(cl (habs σ h) 2 t (2 : Int32)))) rfl rfl rfl rfl ⟨Nat.le_of_ble_eq_true rfl, Nat.le_of_ble_eq_true rfl⟩ rfl (Nat.le_of_ble_eq_true rfl) (by decide +kernel) (fun o σ2 hPσ2 => ?_)
  obtain ⟨rfl, hWσ2⟩ := hPσ2
  refine g_blk (pc' := 49) (loc' := [some (vR (2, 0, h)), some (vI t), some (vI (cl (habs σ h) 2 t (2 : Int32))), some (vI (cl (habs σ h) 2 t (1 : Int32)))]) (st' := [vI (cl (habs σ h) 2 t (2 : Int32)), vI (4 : Int32), vI (cl (habs σ h) 2 t (1 : Int32)), vR (0, 0, h)]) (σ' := σ2) fl1_ok [(42, .aload_n 0), (43, .getfield 16), (46, .iload_n 3), (47, .iconst 4), (48, .iload_n 2)] (by decide +kernel) rfl rfl ?_
  refine g_callV (0, 0, h) [vI (cl (habs σ h) 2 t (1 : Int32)), vI (4 : Int32), vI (cl (habs σ h) 2 t (2 : Int32))] [] vl_RX1_74 mi_X3_increase (ct_increase l hWσ2.2.1 0 (by decide) (cl (habs σ h) 2 t (1 : Int32)) (4 : Int32) (cl (habs σ h) 2 t (2 : Int32))) rfl rfl rfl rfl ⟨Nat.le_of_ble_eq_true rfl, Nat.le_of_ble_eq_true rfl⟩ rfl (Nat.le_of_ble_eq_true rfl) (by decide +kernel) (fun o σ3 hPσ3 => ?_)
  obtain ⟨rfl, hWσ3⟩ := hPσ3
  refine g_blk (pc' := 64) (loc' := [some (vR (2, 0, h)), some (vI t), some (vI (cl (habs σ h) 2 t (2 : Int32))), some (vI (cl (habs σ h) 2 t (1 : Int32)))]) (st' := [vI (0 : Int32), vI (0 : Int32), vR (0, 4, h), vI (5 : Int32), vI (cl (habs σ h) 2 t (1 : Int32)), vR (0, 0, h)]) (σ' := σ3) fl1_ok [(52, .aload_n 0), (53, .getfield 16), (56, .iload_n 3), (57, .iconst 5), (58, .aload_n 0), (59, .getfield 29), (62, .iconst 0), (63, .iconst 0)] (by decide +kernel) rfl rfl ?_
  refine g_callVp (0, 4, h) [vI (0 : Int32), vI (0 : Int32)] [vI (5 : Int32), vI (cl (habs σ h) 2 t (1 : Int32)), vR (0, 0, h)] vl_RX1_58 mi_X3_cell (ct_cell l hWσ3.2.1 4 (by decide) (0 : Int32) (0 : Int32)) rfl rfl rfl rfl ⟨Nat.le_of_ble_eq_true rfl, Nat.le_of_ble_eq_true rfl⟩ rfl (Nat.le_of_ble_eq_true rfl) (by decide +kernel) ?_
  refine g_callV (0, 0, h) [vI (cl (habs σ h) 2 t (1 : Int32)), vI (5 : Int32), vI (cl (habs σ3 h) 4 (0 : Int32) (0 : Int32))] [] vl_RX1_74 mi_X3_increase (ct_increase l hWσ3.2.1 0 (by decide) (cl (habs σ h) 2 t (1 : Int32)) (5 : Int32) (cl (habs σ3 h) 4 (0 : Int32) (0 : Int32))) rfl rfl rfl rfl ⟨Nat.le_of_ble_eq_true rfl, Nat.le_of_ble_eq_true rfl⟩ rfl (Nat.le_of_ble_eq_true rfl) (by decide +kernel) (fun o σ4 hPσ4 => ?_)
  obtain ⟨rfl, hWσ4⟩ := hPσ4
  exact g_vret (by decide +kernel) ⟨rfl, ⟨by rw [hWσ4.1, hWσ3.1, hWσ2.1, hWσ1.1] <;> rfl, hWσ4.2.1, (((hWσ1.2.2).tr hWσ2.2.2).tr hWσ3.2.2).tr hWσ4.2.2⟩⟩
set_option maxHeartbeats 2000000 in
theorem lp_X1_drop (l : Launch) {σ0 : Sg} {h : Nat} {S0 : HA} {Tf : TV} (t : Int32) : ∀ (k : Nat) (σ : Sg) (T : TV), HOK σ h → habs σ h = setT S0 3 T → k ≤ T.1 → T.1 ≤ 6 → dropT t k T = Tf → FrH h σ0 σ → G l (Rm 2) RX1 cX1_dropSwapsWith 3 none (fun o σ' => o = none ∧ HW h (setT S0 3 Tf) σ0 σ') 10 [some (vR (2, 0, h)), some (vI t), some (vI (nI k - 1))] [] σ := by
  intro k
  induction k with
  | zero =>
    intro σ T hH hS hk h6 hd hF
    refine g_blk (pc' := 11) (loc' := [some (vR (2, 0, h)), some (vI t), some (vI (nI 0 - 1))]) (st' := [vI (nI 0 - 1)]) (σ' := σ) fl1_ok [(10, .iload_n 2)] (by decide +kernel) rfl rfl ?_
    refine g_if_lt (off := 43) (tgt := 54) (by decide +kernel) (by decide) (fun zc11 => ?_) (fun zc11 => ?_)
    · exact g_vret (by decide +kernel) ⟨rfl, by rw [hS, ← hd]; rfl, hH, hF⟩
    · exact absurd (by decide) zc11
  | succ k ih =>
    intro σ T hH hS hk h6 hd hF
    rw [nI_pred]
    have hT3 : (habs σ h).1 3 = T := by rw [hS]; exact setT_at S0 3 T
    refine g_blk (pc' := 11) (loc' := [some (vR (2, 0, h)), some (vI t), some (vI (nI k))]) (st' := [vI (nI k)]) (σ' := σ) fl1_ok [(10, .iload_n 2)] (by decide +kernel) rfl rfl ?_
    refine g_if_lt (off := 43) (tgt := 54) (by decide +kernel) (by decide) (fun zc11 => ?_) (fun zc11 => ?_)
    · exact absurd zc11 (nI_pos (by omega))
    · refine g_blk (pc' := 20) (loc' := [some (vR (2, 0, h)), some (vI t), some (vI (nI k))]) (st' := [vI (0 : Int32), vI (nI k), vR (0, 3, h)]) (σ' := σ) fl1_ok [(14, .aload_n 0), (15, .getfield 26), (18, .iload_n 2), (19, .iconst 0)] (by decide +kernel) rfl rfl ?_
      refine g_callVp (0, 3, h) [vI (nI k), vI (0 : Int32)] [] vl_RX1_58 mi_X3_cell (ct_cell l hH 3 (by decide) (nI k) (0 : Int32)) rfl rfl rfl rfl ⟨Nat.le_of_ble_eq_true rfl, Nat.le_of_ble_eq_true rfl⟩ rfl (Nat.le_of_ble_eq_true rfl) (by decide +kernel) ?_
      refine g_blk (pc' := 24) (loc' := [some (vR (2, 0, h)), some (vI t), some (vI (nI k))]) (st' := [vI t, vI (cl (habs σ h) 3 (nI k) (0 : Int32))]) (σ' := σ) fl1_ok [(23, .iload_n 1)] (by decide +kernel) rfl rfl ?_
      refine g_icmp_eq (off := 16) (tgt := 40) (by decide +kernel) (by decide) (fun zc24 => ?_) (fun zc24 => ?_)
      · refine g_blk (pc' := 45) (loc' := [some (vR (2, 0, h)), some (vI t), some (vI (nI k))]) (st' := [vI (nI k), vR (0, 3, h)]) (σ' := σ) fl1_ok [(40, .aload_n 0), (41, .getfield 26), (44, .iload_n 2)] (by decide +kernel) rfl rfl ?_
        refine g_callV (0, 3, h) [vI (nI k)] [] vl_RX1_164 mi_X3_remove (ct_remove l hH 3 (by decide) (show k < sz (habs σ h) 3 by rw [sz, hT3]; omega)) rfl rfl rfl rfl ⟨Nat.le_of_ble_eq_true rfl, Nat.le_of_ble_eq_true rfl⟩ rfl (Nat.le_of_ble_eq_true rfl) (by decide +kernel) (fun o σ1 hPσ1 => ?_)
        obtain ⟨rfl, hWσ1⟩ := hPσ1
        refine g_blk (pc' := 10) (loc' := [some (vR (2, 0, h)), some (vI t), some (vI ((nI k) + (-1 : Int32)))]) (st' := []) (σ' := σ1) fl1_ok [(48, .iinc 2 (-1)), (51, .goto (-41))] (by decide +kernel) rfl rfl ?_
        rw [im1]
        rw [cl, hT3] at zc24
        rw [dropT, if_pos zc24] at hd
        exact ih σ1 (trem T k) hWσ1.2.1 (by rw [hWσ1.1, hT3, hS, setT_tw]) (by show k ≤ T.1 - 1; omega) (by show T.1 - 1 ≤ 6; omega) hd (hF.tr hWσ1.2.2)
      · refine g_blk (pc' := 33) (loc' := [some (vR (2, 0, h)), some (vI t), some (vI (nI k))]) (st' := [vI (1 : Int32), vI (nI k), vR (0, 3, h)]) (σ' := σ) fl1_ok [(27, .aload_n 0), (28, .getfield 26), (31, .iload_n 2), (32, .iconst 1)] (by decide +kernel) rfl rfl ?_
        refine g_callVp (0, 3, h) [vI (nI k), vI (1 : Int32)] [] vl_RX1_58 mi_X3_cell (ct_cell l hH 3 (by decide) (nI k) (1 : Int32)) rfl rfl rfl rfl ⟨Nat.le_of_ble_eq_true rfl, Nat.le_of_ble_eq_true rfl⟩ rfl (Nat.le_of_ble_eq_true rfl) (by decide +kernel) ?_
        refine g_blk (pc' := 37) (loc' := [some (vR (2, 0, h)), some (vI t), some (vI (nI k))]) (st' := [vI t, vI (cl (habs σ h) 3 (nI k) (1 : Int32))]) (σ' := σ) fl1_ok [(36, .iload_n 1)] (by decide +kernel) rfl rfl ?_
        refine g_icmp_ne (off := 11) (tgt := 48) (by decide +kernel) (by decide) (fun zc37 => ?_) (fun zc37 => ?_)
        · refine g_blk (pc' := 10) (loc' := [some (vR (2, 0, h)), some (vI t), some (vI ((nI k) + (-1 : Int32)))]) (st' := []) (σ' := σ) fl1_ok [(48, .iinc 2 (-1)), (51, .goto (-41))] (by decide +kernel) rfl rfl ?_
          rw [im1]
          rw [cl, hT3] at zc24
          rw [cl, hT3] at zc37
          rw [dropT, if_neg zc24, if_pos zc37] at hd
          exact ih σ T hH hS (by omega) h6 hd hF
        · refine g_blk (pc' := 45) (loc' := [some (vR (2, 0, h)), some (vI t), some (vI (nI k))]) (st' := [vI (nI k), vR (0, 3, h)]) (σ' := σ) fl1_ok [(40, .aload_n 0), (41, .getfield 26), (44, .iload_n 2)] (by decide +kernel) rfl rfl ?_
          refine g_callV (0, 3, h) [vI (nI k)] [] vl_RX1_164 mi_X3_remove (ct_remove l hH 3 (by decide) (show k < sz (habs σ h) 3 by rw [sz, hT3]; omega)) rfl rfl rfl rfl ⟨Nat.le_of_ble_eq_true rfl, Nat.le_of_ble_eq_true rfl⟩ rfl (Nat.le_of_ble_eq_true rfl) (by decide +kernel) (fun o σ2 hPσ2 => ?_)
          obtain ⟨rfl, hWσ2⟩ := hPσ2
          refine g_blk (pc' := 10) (loc' := [some (vR (2, 0, h)), some (vI t), some (vI ((nI k) + (-1 : Int32)))]) (st' := []) (σ' := σ2) fl1_ok [(48, .iinc 2 (-1)), (51, .goto (-41))] (by decide +kernel) rfl rfl ?_
          rw [im1]
          rw [cl, hT3] at zc24
          rw [cl, hT3] at zc37
          rw [dropT, if_neg zc24, if_neg (not_not_intro zc37)] at hd
          exact ih σ2 (trem T k) hWσ2.2.1 (by rw [hWσ2.1, hT3, hS, setT_tw]) (by show k ≤ T.1 - 1; omega) (by show T.1 - 1 ≤ 6; omega) hd (hF.tr hWσ2.2.2)
set_option maxHeartbeats 2000000 in
theorem c_X1_dropSwapsWith (l : Launch) {σ : Sg} {h : Nat} (t : Int32) (hH : HOK σ h) : Con l 2 yX1_dropSwapsWith cX1_dropSwapsWith 3 none [vR (2, 0, h), vI t] σ (fun o σ' => o = none ∧ HW h (dropS (habs σ h) t) σ σ') := by
  refine con_of pn_X1_dropSwapsWith (Nat.le_of_ble_eq_true rfl) (fun hPK hok => ?_)
  show G l (Rm 2) RX1 cX1_dropSwapsWith 3 none _ 0 [some (vR (2, 0, h)), some (vI t), none] [] σ
  refine g_blk (pc' := 4) (loc' := [some (vR (2, 0, h)), some (vI t), none]) (st' := [vR (0, 3, h)]) (σ' := σ) fl1_ok [(0, .aload_n 0), (1, .getfield 26)] (by decide +kernel) rfl rfl ?_
  refine g_callVp (0, 3, h) [] [] vl_RX1_66 mi_X3_size (ct_size l hH 3 (by decide)) rfl rfl rfl rfl ⟨Nat.le_of_ble_eq_true rfl, Nat.le_of_ble_eq_true rfl⟩ rfl (Nat.le_of_ble_eq_true rfl) (by decide +kernel) ?_
  refine g_blk (pc' := 10) (loc' := [some (vR (2, 0, h)), some (vI t), some (vI ((nI (sz (habs σ h) 3)) - (1 : Int32)))]) (st' := []) (σ' := σ) fl1_ok [(7, .iconst 1), (8, .isub), (9, .istore_n 2)] (by decide +kernel) rfl rfl ?_
  exact lp_X1_drop l t (sz (habs σ h) 3) σ ((habs σ h).1 3) hH (setT_self (habs σ h) 3).symm (Nat.le_refl _) (ha_N hH 3 (by decide)) rfl FrH.rf
set_option maxHeartbeats 2000000 in
theorem c_X1_finish (l : Launch) {σ : Sg} {h : Nat} (t : Int32) (hH : HOK σ h) : Con l 3 yX1_finish cX1_finish 4 (some .int) [vR (2, 0, h), vI t] σ (fun o σ' => o = some (vI (cl (habs σ h) 2 t 2)) ∧ HW h (finS (habs σ h) t) σ σ') := by
  refine con_of pn_X1_finish (Nat.le_of_ble_eq_true rfl) (fun hPK hok => ?_)
  show G l (Rm 3) RX1 cX1_finish 4 (some .int) _ 0 [some (vR (2, 0, h)), some (vI t), none, none] [] σ
  refine g_blk (pc' := 6) (loc' := [some (vR (2, 0, h)), some (vI t), none, none]) (st' := [vI (2 : Int32), vI t, vR (0, 2, h)]) (σ' := σ) fl1_ok [(0, .aload_n 0), (1, .getfield 23), (4, .iload_n 1), (5, .iconst 2)] (by decide +kernel) rfl rfl ?_
  refine g_callVp (0, 2, h) [vI t, vI (2 : Int32)] [] vl_RX1_58 mi_X3_cell (ct_cell l hH 2 (by decide) t (2 : Int32)) rfl rfl rfl rfl ⟨Nat.le_of_ble_eq_true rfl, Nat.le_of_ble_eq_true rfl⟩ rfl (Nat.le_of_ble_eq_true rfl) (by decide +kernel) ?_
  refine g_blk (pc' := 16) (loc' := [some (vR (2, 0, h)), some (vI t), some (vI (cl (habs σ h) 2 t (2 : Int32))), none]) (st' := [vI (1 : Int32), vI t, vR (0, 2, h)]) (σ' := σ) fl1_ok [(9, .istore_n 2), (10, .aload_n 0), (11, .getfield 23), (14, .iload_n 1), (15, .iconst 1)] (by decide +kernel) rfl rfl ?_
  refine g_callVp (0, 2, h) [vI t, vI (1 : Int32)] [] vl_RX1_58 mi_X3_cell (ct_cell l hH 2 (by decide) t (1 : Int32)) rfl rfl rfl rfl ⟨Nat.le_of_ble_eq_true rfl, Nat.le_of_ble_eq_true rfl⟩ rfl (Nat.le_of_ble_eq_true rfl) (by decide +kernel) ?_
  refine g_blk (pc' := 27) (loc' := [some (vR (2, 0, h)), some (vI t), some (vI (cl (habs σ h) 2 t (2 : Int32))), some (vI (cl (habs σ h) 2 t (1 : Int32)))]) (st' := [vI (1 : Int32), vI (3 : Int32), vI t, vR (0, 2, h)]) (σ' := σ) fl1_ok [(19, .istore_n 3), (20, .aload_n 0), (21, .getfield 23), (24, .iload_n 1), (25, .iconst 3), (26, .iconst 1)] (by decide +kernel) rfl rfl ?_
  refine g_callV (0, 2, h) [vI t, vI (3 : Int32), vI (1 : Int32)] [] vl_RX1_36 mi_X3_write (ct_write l hH 2 (by decide) t (3 : Int32) (1 : Int32)) rfl rfl rfl rfl ⟨Nat.le_of_ble_eq_true rfl, Nat.le_of_ble_eq_true rfl⟩ rfl (Nat.le_of_ble_eq_true rfl) (by decide +kernel) (fun o σ1 hPσ1 => ?_)
  obtain ⟨rfl, hWσ1⟩ := hPσ1
  refine g_blk (pc' := 40) (loc' := [some (vR (2, 0, h)), some (vI t), some (vI (cl (habs σ h) 2 t (2 : Int32))), some (vI (cl (habs σ h) 2 t (1 : Int32)))]) (st' := []) (σ' := (upd2 σ1.1 (2, 0, h) 7 (((habs σ1 h).2 7) + (1 : Int32)), σ1.2)) fl1_ok [(30, .aload_n 0), (31, .dup), (32, .getfield 52), (35, .iconst 1), (36, .iadd), (37, .putfield 52)] (by decide +kernel) rfl rfl ?_
  generalize hσ2 : ((upd2 σ1.1 (2, 0, h) 7 (((habs σ1 h).2 7) + (1 : Int32)), σ1.2) : Sg) = σ2
  have hWσ2 := hw_F hWσ1.2.1 (by decide) hσ2
  refine g_blk (pc' := 49) (loc' := [some (vR (2, 0, h)), some (vI t), some (vI (cl (habs σ h) 2 t (2 : Int32))), some (vI (cl (habs σ h) 2 t (1 : Int32)))]) (st' := [vI (-(cl (habs σ h) 2 t (2 : Int32))), vI (6 : Int32), vI (cl (habs σ h) 2 t (1 : Int32)), vR (0, 0, h)]) (σ' := σ2) fl1_ok [(40, .aload_n 0), (41, .getfield 16), (44, .iload_n 3), (45, .bipush 6), (47, .iload_n 2), (48, .ineg)] (by decide +kernel) rfl rfl ?_
  refine g_callV (0, 0, h) [vI (cl (habs σ h) 2 t (1 : Int32)), vI (6 : Int32), vI (-(cl (habs σ h) 2 t (2 : Int32)))] [] vl_RX1_74 mi_X3_increase (ct_increase l hWσ2.2.1 0 (by decide) (cl (habs σ h) 2 t (1 : Int32)) (6 : Int32) (-(cl (habs σ h) 2 t (2 : Int32)))) rfl rfl rfl rfl ⟨Nat.le_of_ble_eq_true rfl, Nat.le_of_ble_eq_true rfl⟩ rfl (Nat.le_of_ble_eq_true rfl) (by decide +kernel) (fun o σ3 hPσ3 => ?_)
  obtain ⟨rfl, hWσ3⟩ := hPσ3
  refine g_blk (pc' := 59) (loc' := [some (vR (2, 0, h)), some (vI t), some (vI (cl (habs σ h) 2 t (2 : Int32))), some (vI (cl (habs σ h) 2 t (1 : Int32)))]) (st' := [vI (cl (habs σ h) 2 t (2 : Int32)), vI (3 : Int32), vI (cl (habs σ h) 2 t (1 : Int32)), vR (0, 0, h)]) (σ' := σ3) fl1_ok [(52, .aload_n 0), (53, .getfield 16), (56, .iload_n 3), (57, .iconst 3), (58, .iload_n 2)] (by decide +kernel) rfl rfl ?_
  refine g_callV (0, 0, h) [vI (cl (habs σ h) 2 t (1 : Int32)), vI (3 : Int32), vI (cl (habs σ h) 2 t (2 : Int32))] [] vl_RX1_74 mi_X3_increase (ct_increase l hWσ3.2.1 0 (by decide) (cl (habs σ h) 2 t (1 : Int32)) (3 : Int32) (cl (habs σ h) 2 t (2 : Int32))) rfl rfl rfl rfl ⟨Nat.le_of_ble_eq_true rfl, Nat.le_of_ble_eq_true rfl⟩ rfl (Nat.le_of_ble_eq_true rfl) (by decide +kernel) (fun o σ4 hPσ4 => ?_)
  obtain ⟨rfl, hWσ4⟩ := hPσ4
  refine g_blk (pc' := 64) (loc' := [some (vR (2, 0, h)), some (vI t), some (vI (cl (habs σ h) 2 t (2 : Int32))), some (vI (cl (habs σ h) 2 t (1 : Int32)))]) (st' := [vI t, vR (2, 0, h)]) (σ' := σ4) fl1_ok [(62, .aload_n 0), (63, .iload_n 1)] (by decide +kernel) rfl rfl ?_
  refine g_callVp (2, 0, h) [vI t] [] vl_RX1_130 mi_X1_isTwinOpen (c_X1_isTwinOpen l hWσ4.2.1 t) rfl rfl rfl rfl ⟨Nat.le_of_ble_eq_true rfl, Nat.le_of_ble_eq_true rfl⟩ rfl (Nat.le_of_ble_eq_true rfl) (by decide +kernel) ?_
  refine g_if_ne (off := 16) (tgt := 83) (by decide +kernel) (by decide) (fun zc67 => ?_) (fun zc67 => ?_)
  · refine g_blk (pc' := 85) (loc' := [some (vR (2, 0, h)), some (vI t), some (vI (cl (habs σ h) 2 t (2 : Int32))), some (vI (cl (habs σ h) 2 t (1 : Int32)))]) (st' := [vI t, vR (2, 0, h)]) (σ' := σ4) fl1_ok [(83, .aload_n 0), (84, .iload_n 1)] (by decide +kernel) rfl rfl ?_
    refine g_callV (2, 0, h) [vI t] [] vl_RX1_137 mi_X1_dropSwapsWith (c_X1_dropSwapsWith l t hWσ4.2.1) rfl rfl rfl rfl ⟨Nat.le_of_ble_eq_true rfl, Nat.le_of_ble_eq_true rfl⟩ rfl (Nat.le_of_ble_eq_true rfl) (by decide +kernel) (fun o σ5 hPσ5 => ?_)
    obtain ⟨rfl, hWσ5⟩ := hPσ5
    refine g_blk (pc' := 89) (loc' := [some (vR (2, 0, h)), some (vI t), some (vI (cl (habs σ h) 2 t (2 : Int32))), some (vI (cl (habs σ h) 2 t (1 : Int32)))]) (st' := [vI (cl (habs σ h) 2 t (2 : Int32))]) (σ' := σ5) fl1_ok [(88, .iload_n 2)] (by decide +kernel) rfl rfl ?_
    rw [hWσ4.1, hWσ3.1, hWσ2.1, hWσ1.1] at zc67
    refine g_iret (by decide +kernel) ⟨rfl, ⟨?_, hWσ5.2.1, ((((hWσ1.2.2).tr hWσ2.2.2).tr hWσ3.2.2).tr hWσ4.2.2).tr hWσ5.2.2⟩⟩
    rw [hWσ5.1, hWσ4.1, hWσ3.1, hWσ2.1, hWσ1.1]
    unfold finS
    simp only
    rw [if_pos zc67]
  · refine g_blk (pc' := 77) (loc' := [some (vR (2, 0, h)), some (vI t), some (vI (cl (habs σ h) 2 t (2 : Int32))), some (vI (cl (habs σ h) 2 t (1 : Int32)))]) (st' := [vI (0 : Int32), vI t, vR (0, 2, h), vR (2, 0, h)]) (σ' := σ4) fl1_ok [(70, .aload_n 0), (71, .aload_n 0), (72, .getfield 23), (75, .iload_n 1), (76, .iconst 0)] (by decide +kernel) rfl rfl ?_
    refine g_callVp (0, 2, h) [vI t, vI (0 : Int32)] [vR (2, 0, h)] vl_RX1_58 mi_X3_cell (ct_cell l hWσ4.2.1 2 (by decide) t (0 : Int32)) rfl rfl rfl rfl ⟨Nat.le_of_ble_eq_true rfl, Nat.le_of_ble_eq_true rfl⟩ rfl (Nat.le_of_ble_eq_true rfl) (by decide +kernel) ?_
    refine g_callV (2, 0, h) [vI (cl (habs σ4 h) 2 t (0 : Int32))] [] vl_RX1_133 mi_X1_clean (c_X1_clean l (cl (habs σ4 h) 2 t (0 : Int32)) hWσ4.2.1) rfl rfl rfl rfl ⟨Nat.le_of_ble_eq_true rfl, Nat.le_of_ble_eq_true rfl⟩ rfl (Nat.le_of_ble_eq_true rfl) (by decide +kernel) (fun o σ6 hPσ6 => ?_)
    obtain ⟨rfl, hWσ6⟩ := hPσ6
    refine g_blk (pc' := 85) (loc' := [some (vR (2, 0, h)), some (vI t), some (vI (cl (habs σ h) 2 t (2 : Int32))), some (vI (cl (habs σ h) 2 t (1 : Int32)))]) (st' := [vI t, vR (2, 0, h)]) (σ' := σ6) fl1_ok [(83, .aload_n 0), (84, .iload_n 1)] (by decide +kernel) rfl rfl ?_
    refine g_callV (2, 0, h) [vI t] [] vl_RX1_137 mi_X1_dropSwapsWith (c_X1_dropSwapsWith l t hWσ6.2.1) rfl rfl rfl rfl ⟨Nat.le_of_ble_eq_true rfl, Nat.le_of_ble_eq_true rfl⟩ rfl (Nat.le_of_ble_eq_true rfl) (by decide +kernel) (fun o σ7 hPσ7 => ?_)
    obtain ⟨rfl, hWσ7⟩ := hPσ7
    refine g_blk (pc' := 89) (loc' := [some (vR (2, 0, h)), some (vI t), some (vI (cl (habs σ h) 2 t (2 : Int32))), some (vI (cl (habs σ h) 2 t (1 : Int32)))]) (st' := [vI (cl (habs σ h) 2 t (2 : Int32))]) (σ' := σ7) fl1_ok [(88, .iload_n 2)] (by decide +kernel) rfl rfl ?_
    rw [hWσ4.1, hWσ3.1, hWσ2.1, hWσ1.1] at zc67
    refine g_iret (by decide +kernel) ⟨rfl, ⟨?_, hWσ7.2.1, (((((hWσ1.2.2).tr hWσ2.2.2).tr hWσ3.2.2).tr hWσ4.2.2).tr hWσ6.2.2).tr hWσ7.2.2⟩⟩
    rw [hWσ7.1, hWσ6.1, hWσ4.1, hWσ3.1, hWσ2.1, hWσ1.1]
    unfold finS
    simp only
    rw [if_neg (not_not_intro zc67)]
