/-! HOUSE: writers (laid by wip/p26/mk12.py) -/
theorem sz_drop (S : HA) (t : Int32) (j : Nat) (hj : j ≠ 3) : sz (dropS S t) j = sz S j := by
  unfold dropS sz setT
  simp only
  rw [if_neg hj]
theorem sz_fin (S : HA) (t : Int32) : sz (finS S t) 2 = sz S 2 := by
  unfold finS
  simp only
  rw [sz_drop _ _ 2 (by decide)]
  split <;> rfl
theorem ha_hi (σ : Sg) (h j : Nat) (hj : ¬ j < 5) : (habs σ h).1 j = (0, fun _ _ => 0) := if_neg hj
theorem ha_hf (σ : Sg) (h k : Nat) (hk : ¬ (5 ≤ k ∧ k ≤ 8)) : (habs σ h).2 k = 0 := if_neg hk
theorem cp_all (S T : HA) (hS : ∀ j, ¬ j < 5 → S.1 j = (0, fun _ _ => 0)) (hT : ∀ j, ¬ j < 5 → T.1 j = (0, fun _ _ => 0)) (fS : ∀ k, ¬ (5 ≤ k ∧ k ≤ 8) → S.2 k = 0) (fT : ∀ k, ¬ (5 ≤ k ∧ k ≤ 8) → T.2 k = 0) :
    setF (setF (setF (setF (setT (setT (setT (setT (setT S 0 (T.1 0)) 1 (T.1 1)) 2 (T.1 2)) 3 (T.1 3)) 4 (T.1 4)) 5 (T.2 5)) 6 (T.2 6)) 7 (T.2 7)) 8 (T.2 8) = T := by
  refine Prod.ext ?_ ?_
  · funext j
    match j with
    | 0 => rfl
    | 1 => rfl
    | 2 => rfl
    | 3 => rfl
    | 4 => rfl
    | j + 5 => exact (hS (j + 5) (by omega)).trans (hT (j + 5) (by omega)).symm
  · funext k
    match k with
    | 0 => exact (fS 0 (by omega)).trans (fT 0 (by omega)).symm
    | 1 => exact (fS 1 (by omega)).trans (fT 1 (by omega)).symm
    | 2 => exact (fS 2 (by omega)).trans (fT 2 (by omega)).symm
    | 3 => exact (fS 3 (by omega)).trans (fT 3 (by omega)).symm
    | 4 => exact (fS 4 (by omega)).trans (fT 4 (by omega)).symm
    | 5 => rfl
    | 6 => rfl
    | 7 => rfl
    | 8 => rfl
    | k + 9 => exact (fS (k + 9) (by omega)).trans (fT (k + 9) (by omega)).symm
set_option maxHeartbeats 2000000 in
theorem c_X1_clean (l : Launch) {σ : Sg} {h : Nat} (a : Int32) (hH : HOK σ h) : Con l 2 yX1_clean cX1_clean 2 none [vR (2, 0, h), vI a] σ (fun o σ' => o = none ∧ HW h (cleanS (habs σ h) a) σ σ') := by
  refine con_of pn_X1_clean (Nat.le_of_ble_eq_true rfl) (fun hPK hok => ?_)
  show G l (Rm 2) RX1 cX1_clean 2 none _ 0 [some (vR (2, 0, h)), some (vI a)] [] σ
  refine g_blk (pc' := 7) (loc' := [some (vR (2, 0, h)), some (vI a)]) (st' := [vI (0 : Int32), vI (3 : Int32), vI a, vR (0, 1, h)]) (σ' := σ) fl1_ok [(0, .aload_n 0), (1, .getfield 20), (4, .iload_n 1), (5, .iconst 3), (6, .iconst 0)] (by decide +kernel) rfl rfl ?_
  refine g_callV (0, 1, h) [vI a, vI (3 : Int32), vI (0 : Int32)] [] vl_RX1_36 mi_X3_write (ct_write l hH 1 (by decide) a (3 : Int32) (0 : Int32)) rfl rfl rfl rfl ⟨Nat.le_of_ble_eq_true rfl, Nat.le_of_ble_eq_true rfl⟩ rfl (Nat.le_of_ble_eq_true rfl) (by decide +kernel) (fun o σ1 hPσ1 => ?_)
  obtain ⟨rfl, hWσ1⟩ := hPσ1
  refine g_blk (pc' := 17) (loc' := [some (vR (2, 0, h)), some (vI a)]) (st' := [vI (1 : Int32), vI (4 : Int32), vI a, vR (0, 1, h)]) (σ' := σ1) fl1_ok [(10, .aload_n 0), (11, .getfield 20), (14, .iload_n 1), (15, .iconst 4), (16, .iconst 1)] (by decide +kernel) rfl rfl ?_
  refine g_callV (0, 1, h) [vI a, vI (4 : Int32), vI (1 : Int32)] [] vl_RX1_74 mi_X3_increase (ct_increase l hWσ1.2.1 1 (by decide) a (4 : Int32) (1 : Int32)) rfl rfl rfl rfl ⟨Nat.le_of_ble_eq_true rfl, Nat.le_of_ble_eq_true rfl⟩ rfl (Nat.le_of_ble_eq_true rfl) (by decide +kernel) (fun o σ2 hPσ2 => ?_)
  obtain ⟨rfl, hWσ2⟩ := hPσ2
  exact g_vret (by decide +kernel) ⟨rfl, ⟨by rw [hWσ2.1, hWσ1.1] <;> rfl, hWσ2.2.1, (hWσ1.2.2).tr hWσ2.2.2⟩⟩
set_option maxHeartbeats 2000000 in
theorem c_X1_addResident (l : Launch) {σ : Sg} {h : Nat} (w : Int32) (hH : HOK σ h) (hn : sz (habs σ h) 0 < 8) : Con l 2 yX1_addResident cX1_addResident 3 (some .int) [vR (2, 0, h), vI w] σ (fun o σ' => o = some (vI (nI (sz (habs σ h) 0))) ∧ HW h (addResS (habs σ h) w) σ σ') := by
  refine con_of pn_X1_addResident (Nat.le_of_ble_eq_true rfl) (fun hPK hok => ?_)
  show G l (Rm 2) RX1 cX1_addResident 3 (some .int) _ 0 [some (vR (2, 0, h)), some (vI w), none] [] σ
  refine g_blk (pc' := 4) (loc' := [some (vR (2, 0, h)), some (vI w), none]) (st' := [vR (0, 0, h)]) (σ' := σ) fl1_ok [(0, .aload_n 0), (1, .getfield 16)] (by decide +kernel) rfl rfl ?_
  refine g_callV (0, 0, h) [] [] vl_RX1_32 mi_X3_append (ct_append l hH 0 (by decide) hn) rfl rfl rfl rfl ⟨Nat.le_of_ble_eq_true rfl, Nat.le_of_ble_eq_true rfl⟩ rfl (Nat.le_of_ble_eq_true rfl) (by decide +kernel) (fun o σ1 hPσ1 => ?_)
  obtain ⟨rfl, hWσ1⟩ := hPσ1
  refine g_blk (pc' := 15) (loc' := [some (vR (2, 0, h)), some (vI w), some (vI (nI (sz (habs σ h) 0)))]) (st' := [vI w, vI (0 : Int32), vI (nI (sz (habs σ h) 0)), vR (0, 0, h)]) (σ' := σ1) fl1_ok [(7, .istore_n 2), (8, .aload_n 0), (9, .getfield 16), (12, .iload_n 2), (13, .iconst 0), (14, .iload_n 1)] (by decide +kernel) rfl rfl ?_
  refine g_callV (0, 0, h) [vI (nI (sz (habs σ h) 0)), vI (0 : Int32), vI w] [] vl_RX1_36 mi_X3_write (ct_write l hWσ1.2.1 0 (by decide) (nI (sz (habs σ h) 0)) (0 : Int32) w) rfl rfl rfl rfl ⟨Nat.le_of_ble_eq_true rfl, Nat.le_of_ble_eq_true rfl⟩ rfl (Nat.le_of_ble_eq_true rfl) (by decide +kernel) (fun o σ2 hPσ2 => ?_)
  obtain ⟨rfl, hWσ2⟩ := hPσ2
  refine g_blk (pc' := 25) (loc' := [some (vR (2, 0, h)), some (vI w), some (vI (nI (sz (habs σ h) 0)))]) (st' := [vI (0 : Int32), vI (1 : Int32), vI (nI (sz (habs σ h) 0)), vR (0, 0, h)]) (σ' := σ2) fl1_ok [(18, .aload_n 0), (19, .getfield 16), (22, .iload_n 2), (23, .iconst 1), (24, .iconst 0)] (by decide +kernel) rfl rfl ?_
  refine g_callV (0, 0, h) [vI (nI (sz (habs σ h) 0)), vI (1 : Int32), vI (0 : Int32)] [] vl_RX1_36 mi_X3_write (ct_write l hWσ2.2.1 0 (by decide) (nI (sz (habs σ h) 0)) (1 : Int32) (0 : Int32)) rfl rfl rfl rfl ⟨Nat.le_of_ble_eq_true rfl, Nat.le_of_ble_eq_true rfl⟩ rfl (Nat.le_of_ble_eq_true rfl) (by decide +kernel) (fun o σ3 hPσ3 => ?_)
  obtain ⟨rfl, hWσ3⟩ := hPσ3
  refine g_blk (pc' := 35) (loc' := [some (vR (2, 0, h)), some (vI w), some (vI (nI (sz (habs σ h) 0)))]) (st' := [vI (-1 : Int32), vI (2 : Int32), vI (nI (sz (habs σ h) 0)), vR (0, 0, h)]) (σ' := σ3) fl1_ok [(28, .aload_n 0), (29, .getfield 16), (32, .iload_n 2), (33, .iconst 2), (34, .iconst (-1))] (by decide +kernel) rfl rfl ?_
  refine g_callV (0, 0, h) [vI (nI (sz (habs σ h) 0)), vI (2 : Int32), vI (-1 : Int32)] [] vl_RX1_36 mi_X3_write (ct_write l hWσ3.2.1 0 (by decide) (nI (sz (habs σ h) 0)) (2 : Int32) (-1 : Int32)) rfl rfl rfl rfl ⟨Nat.le_of_ble_eq_true rfl, Nat.le_of_ble_eq_true rfl⟩ rfl (Nat.le_of_ble_eq_true rfl) (by decide +kernel) (fun o σ4 hPσ4 => ?_)
  obtain ⟨rfl, hWσ4⟩ := hPσ4
  refine g_blk (pc' := 39) (loc' := [some (vR (2, 0, h)), some (vI w), some (vI (nI (sz (habs σ h) 0)))]) (st' := [vI (nI (sz (habs σ h) 0))]) (σ' := σ4) fl1_ok [(38, .iload_n 2)] (by decide +kernel) rfl rfl ?_
  exact g_iret (by decide +kernel) ⟨rfl, ⟨by rw [hWσ4.1, hWσ3.1, hWσ2.1, hWσ1.1] <;> rfl, hWσ4.2.1, (((hWσ1.2.2).tr hWσ2.2.2).tr hWσ3.2.2).tr hWσ4.2.2⟩⟩
set_option maxHeartbeats 2000000 in
theorem c_X1_addArea (l : Launch) {σ : Sg} {h : Nat} (e p g : Int32) (hH : HOK σ h) (hn : sz (habs σ h) 1 < 6) : Con l 2 yX1_addArea cX1_addArea 5 (some .int) [vR (2, 0, h), vI e, vI p, vI g] σ (fun o σ' => o = some (vI (nI (sz (habs σ h) 1))) ∧ HW h (addAreaS (habs σ h) e p g) σ σ') := by
  refine con_of pn_X1_addArea (Nat.le_of_ble_eq_true rfl) (fun hPK hok => ?_)
  show G l (Rm 2) RX1 cX1_addArea 5 (some .int) _ 0 [some (vR (2, 0, h)), some (vI e), some (vI p), some (vI g), none] [] σ
  refine g_blk (pc' := 4) (loc' := [some (vR (2, 0, h)), some (vI e), some (vI p), some (vI g), none]) (st' := [vR (0, 1, h)]) (σ' := σ) fl1_ok [(0, .aload_n 0), (1, .getfield 20)] (by decide +kernel) rfl rfl ?_
  refine g_callV (0, 1, h) [] [] vl_RX1_32 mi_X3_append (ct_append l hH 1 (by decide) hn) rfl rfl rfl rfl ⟨Nat.le_of_ble_eq_true rfl, Nat.le_of_ble_eq_true rfl⟩ rfl (Nat.le_of_ble_eq_true rfl) (by decide +kernel) (fun o σ1 hPσ1 => ?_)
  obtain ⟨rfl, hWσ1⟩ := hPσ1
  refine g_blk (pc' := 17) (loc' := [some (vR (2, 0, h)), some (vI e), some (vI p), some (vI g), some (vI (nI (sz (habs σ h) 1)))]) (st' := [vI e, vI (0 : Int32), vI (nI (sz (habs σ h) 1)), vR (0, 1, h)]) (σ' := σ1) fl1_ok [(7, .istore 4), (9, .aload_n 0), (10, .getfield 20), (13, .iload 4), (15, .iconst 0), (16, .iload_n 1)] (by decide +kernel) rfl rfl ?_
  refine g_callV (0, 1, h) [vI (nI (sz (habs σ h) 1)), vI (0 : Int32), vI e] [] vl_RX1_36 mi_X3_write (ct_write l hWσ1.2.1 1 (by decide) (nI (sz (habs σ h) 1)) (0 : Int32) e) rfl rfl rfl rfl ⟨Nat.le_of_ble_eq_true rfl, Nat.le_of_ble_eq_true rfl⟩ rfl (Nat.le_of_ble_eq_true rfl) (by decide +kernel) (fun o σ2 hPσ2 => ?_)
  obtain ⟨rfl, hWσ2⟩ := hPσ2
  refine g_blk (pc' := 28) (loc' := [some (vR (2, 0, h)), some (vI e), some (vI p), some (vI g), some (vI (nI (sz (habs σ h) 1)))]) (st' := [vI p, vI (1 : Int32), vI (nI (sz (habs σ h) 1)), vR (0, 1, h)]) (σ' := σ2) fl1_ok [(20, .aload_n 0), (21, .getfield 20), (24, .iload 4), (26, .iconst 1), (27, .iload_n 2)] (by decide +kernel) rfl rfl ?_
  refine g_callV (0, 1, h) [vI (nI (sz (habs σ h) 1)), vI (1 : Int32), vI p] [] vl_RX1_36 mi_X3_write (ct_write l hWσ2.2.1 1 (by decide) (nI (sz (habs σ h) 1)) (1 : Int32) p) rfl rfl rfl rfl ⟨Nat.le_of_ble_eq_true rfl, Nat.le_of_ble_eq_true rfl⟩ rfl (Nat.le_of_ble_eq_true rfl) (by decide +kernel) (fun o σ3 hPσ3 => ?_)
  obtain ⟨rfl, hWσ3⟩ := hPσ3
  refine g_blk (pc' := 39) (loc' := [some (vR (2, 0, h)), some (vI e), some (vI p), some (vI g), some (vI (nI (sz (habs σ h) 1)))]) (st' := [vI g, vI (2 : Int32), vI (nI (sz (habs σ h) 1)), vR (0, 1, h)]) (σ' := σ3) fl1_ok [(31, .aload_n 0), (32, .getfield 20), (35, .iload 4), (37, .iconst 2), (38, .iload_n 3)] (by decide +kernel) rfl rfl ?_
  refine g_callV (0, 1, h) [vI (nI (sz (habs σ h) 1)), vI (2 : Int32), vI g] [] vl_RX1_36 mi_X3_write (ct_write l hWσ3.2.1 1 (by decide) (nI (sz (habs σ h) 1)) (2 : Int32) g) rfl rfl rfl rfl ⟨Nat.le_of_ble_eq_true rfl, Nat.le_of_ble_eq_true rfl⟩ rfl (Nat.le_of_ble_eq_true rfl) (by decide +kernel) (fun o σ4 hPσ4 => ?_)
  obtain ⟨rfl, hWσ4⟩ := hPσ4
  refine g_blk (pc' := 44) (loc' := [some (vR (2, 0, h)), some (vI e), some (vI p), some (vI g), some (vI (nI (sz (habs σ h) 1)))]) (st' := [vI (nI (sz (habs σ h) 1))]) (σ' := σ4) fl1_ok [(42, .iload 4)] (by decide +kernel) rfl rfl ?_
  exact g_iret (by decide +kernel) ⟨rfl, ⟨by rw [hWσ4.1, hWσ3.1, hWσ2.1, hWσ1.1] <;> rfl, hWσ4.2.1, (((hWσ1.2.2).tr hWσ2.2.2).tr hWσ3.2.2).tr hWσ4.2.2⟩⟩
set_option maxHeartbeats 2000000 in
theorem c_X1_addTask (l : Launch) {σ : Sg} {h : Nat} (a e d : Int32) (hH : HOK σ h) (hn : sz (habs σ h) 2 < 12) : Con l 2 yX1_addTask cX1_addTask 5 none [vR (2, 0, h), vI a, vI e, vI d] σ (fun o σ' => o = none ∧ HW h (addTS (habs σ h) a e d) σ σ') := by
  refine con_of pn_X1_addTask (Nat.le_of_ble_eq_true rfl) (fun hPK hok => ?_)
  show G l (Rm 2) RX1 cX1_addTask 5 none _ 0 [some (vR (2, 0, h)), some (vI a), some (vI e), some (vI d), none] [] σ
  refine g_blk (pc' := 4) (loc' := [some (vR (2, 0, h)), some (vI a), some (vI e), some (vI d), none]) (st' := [vR (0, 2, h)]) (σ' := σ) fl1_ok [(0, .aload_n 0), (1, .getfield 23)] (by decide +kernel) rfl rfl ?_
  refine g_callV (0, 2, h) [] [] vl_RX1_32 mi_X3_append (ct_append l hH 2 (by decide) hn) rfl rfl rfl rfl ⟨Nat.le_of_ble_eq_true rfl, Nat.le_of_ble_eq_true rfl⟩ rfl (Nat.le_of_ble_eq_true rfl) (by decide +kernel) (fun o σ1 hPσ1 => ?_)
  obtain ⟨rfl, hWσ1⟩ := hPσ1
  refine g_blk (pc' := 17) (loc' := [some (vR (2, 0, h)), some (vI a), some (vI e), some (vI d), some (vI (nI (sz (habs σ h) 2)))]) (st' := [vI a, vI (0 : Int32), vI (nI (sz (habs σ h) 2)), vR (0, 2, h)]) (σ' := σ1) fl1_ok [(7, .istore 4), (9, .aload_n 0), (10, .getfield 23), (13, .iload 4), (15, .iconst 0), (16, .iload_n 1)] (by decide +kernel) rfl rfl ?_
  refine g_callV (0, 2, h) [vI (nI (sz (habs σ h) 2)), vI (0 : Int32), vI a] [] vl_RX1_36 mi_X3_write (ct_write l hWσ1.2.1 2 (by decide) (nI (sz (habs σ h) 2)) (0 : Int32) a) rfl rfl rfl rfl ⟨Nat.le_of_ble_eq_true rfl, Nat.le_of_ble_eq_true rfl⟩ rfl (Nat.le_of_ble_eq_true rfl) (by decide +kernel) (fun o σ2 hPσ2 => ?_)
  obtain ⟨rfl, hWσ2⟩ := hPσ2
  refine g_blk (pc' := 28) (loc' := [some (vR (2, 0, h)), some (vI a), some (vI e), some (vI d), some (vI (nI (sz (habs σ h) 2)))]) (st' := [vI e, vI (2 : Int32), vI (nI (sz (habs σ h) 2)), vR (0, 2, h)]) (σ' := σ2) fl1_ok [(20, .aload_n 0), (21, .getfield 23), (24, .iload 4), (26, .iconst 2), (27, .iload_n 2)] (by decide +kernel) rfl rfl ?_
  refine g_callV (0, 2, h) [vI (nI (sz (habs σ h) 2)), vI (2 : Int32), vI e] [] vl_RX1_36 mi_X3_write (ct_write l hWσ2.2.1 2 (by decide) (nI (sz (habs σ h) 2)) (2 : Int32) e) rfl rfl rfl rfl ⟨Nat.le_of_ble_eq_true rfl, Nat.le_of_ble_eq_true rfl⟩ rfl (Nat.le_of_ble_eq_true rfl) (by decide +kernel) (fun o σ3 hPσ3 => ?_)
  obtain ⟨rfl, hWσ3⟩ := hPσ3
  refine g_blk (pc' := 39) (loc' := [some (vR (2, 0, h)), some (vI a), some (vI e), some (vI d), some (vI (nI (sz (habs σ h) 2)))]) (st' := [vI d, vI (4 : Int32), vI (nI (sz (habs σ h) 2)), vR (0, 2, h)]) (σ' := σ3) fl1_ok [(31, .aload_n 0), (32, .getfield 23), (35, .iload 4), (37, .iconst 4), (38, .iload_n 3)] (by decide +kernel) rfl rfl ?_
  refine g_callNp (idx := 104) [vI d] [vI (4 : Int32), vI (nI (sz (habs σ h) 2)), vR (0, 2, h)] (by decide +kernel) nl_X4_bit mi_X4_bit (c_X4_bit l d) rfl ⟨Nat.le_of_ble_eq_true rfl, Nat.le_of_ble_eq_true rfl⟩ rfl (Nat.le_of_ble_eq_true rfl) (by decide +kernel) ?_
  refine g_callV (0, 2, h) [vI (nI (sz (habs σ h) 2)), vI (4 : Int32), vI (bitS d)] [] vl_RX1_36 mi_X3_write (ct_write l hWσ3.2.1 2 (by decide) (nI (sz (habs σ h) 2)) (4 : Int32) (bitS d)) rfl rfl rfl rfl ⟨Nat.le_of_ble_eq_true rfl, Nat.le_of_ble_eq_true rfl⟩ rfl (Nat.le_of_ble_eq_true rfl) (by decide +kernel) (fun o σ4 hPσ4 => ?_)
  obtain ⟨rfl, hWσ4⟩ := hPσ4
  exact g_vret (by decide +kernel) ⟨rfl, ⟨by rw [hWσ4.1, hWσ3.1, hWσ2.1, hWσ1.1] <;> rfl, hWσ4.2.1, (((hWσ1.2.2).tr hWσ2.2.2).tr hWσ3.2.2).tr hWσ4.2.2⟩⟩
set_option maxHeartbeats 2000000 in
theorem c_X1_addSwap (l : Launch) {σ : Sg} {h : Nat} (a b : Int32) (hH : HOK σ h) (hn : sz (habs σ h) 3 < 6) : Con l 2 yX1_addSwap cX1_addSwap 4 (some .int) [vR (2, 0, h), vI a, vI b] σ (fun o σ' => o = some (vI (nI (sz (addSwS (habs σ h) a b) 3))) ∧ HW h (addSwS (habs σ h) a b) σ σ') := by
  refine con_of pn_X1_addSwap (Nat.le_of_ble_eq_true rfl) (fun hPK hok => ?_)
  show G l (Rm 2) RX1 cX1_addSwap 4 (some .int) _ 0 [some (vR (2, 0, h)), some (vI a), some (vI b), none] [] σ
  refine g_blk (pc' := 4) (loc' := [some (vR (2, 0, h)), some (vI a), some (vI b), none]) (st' := [vR (0, 3, h)]) (σ' := σ) fl1_ok [(0, .aload_n 0), (1, .getfield 26)] (by decide +kernel) rfl rfl ?_
  refine g_callV (0, 3, h) [] [] vl_RX1_32 mi_X3_append (ct_append l hH 3 (by decide) hn) rfl rfl rfl rfl ⟨Nat.le_of_ble_eq_true rfl, Nat.le_of_ble_eq_true rfl⟩ rfl (Nat.le_of_ble_eq_true rfl) (by decide +kernel) (fun o σ1 hPσ1 => ?_)
  obtain ⟨rfl, hWσ1⟩ := hPσ1
  refine g_blk (pc' := 15) (loc' := [some (vR (2, 0, h)), some (vI a), some (vI b), some (vI (nI (sz (habs σ h) 3)))]) (st' := [vI a, vI (0 : Int32), vI (nI (sz (habs σ h) 3)), vR (0, 3, h)]) (σ' := σ1) fl1_ok [(7, .istore_n 3), (8, .aload_n 0), (9, .getfield 26), (12, .iload_n 3), (13, .iconst 0), (14, .iload_n 1)] (by decide +kernel) rfl rfl ?_
  refine g_callV (0, 3, h) [vI (nI (sz (habs σ h) 3)), vI (0 : Int32), vI a] [] vl_RX1_36 mi_X3_write (ct_write l hWσ1.2.1 3 (by decide) (nI (sz (habs σ h) 3)) (0 : Int32) a) rfl rfl rfl rfl ⟨Nat.le_of_ble_eq_true rfl, Nat.le_of_ble_eq_true rfl⟩ rfl (Nat.le_of_ble_eq_true rfl) (by decide +kernel) (fun o σ2 hPσ2 => ?_)
  obtain ⟨rfl, hWσ2⟩ := hPσ2
  refine g_blk (pc' := 25) (loc' := [some (vR (2, 0, h)), some (vI a), some (vI b), some (vI (nI (sz (habs σ h) 3)))]) (st' := [vI b, vI (1 : Int32), vI (nI (sz (habs σ h) 3)), vR (0, 3, h)]) (σ' := σ2) fl1_ok [(18, .aload_n 0), (19, .getfield 26), (22, .iload_n 3), (23, .iconst 1), (24, .iload_n 2)] (by decide +kernel) rfl rfl ?_
  refine g_callV (0, 3, h) [vI (nI (sz (habs σ h) 3)), vI (1 : Int32), vI b] [] vl_RX1_36 mi_X3_write (ct_write l hWσ2.2.1 3 (by decide) (nI (sz (habs σ h) 3)) (1 : Int32) b) rfl rfl rfl rfl ⟨Nat.le_of_ble_eq_true rfl, Nat.le_of_ble_eq_true rfl⟩ rfl (Nat.le_of_ble_eq_true rfl) (by decide +kernel) (fun o σ3 hPσ3 => ?_)
  obtain ⟨rfl, hWσ3⟩ := hPσ3
  refine g_blk (pc' := 32) (loc' := [some (vR (2, 0, h)), some (vI a), some (vI b), some (vI (nI (sz (habs σ h) 3)))]) (st' := [vR (0, 3, h)]) (σ' := σ3) fl1_ok [(28, .aload_n 0), (29, .getfield 26)] (by decide +kernel) rfl rfl ?_
  refine g_callVp (0, 3, h) [] [] vl_RX1_66 mi_X3_size (ct_size l hWσ3.2.1 3 (by decide)) rfl rfl rfl rfl ⟨Nat.le_of_ble_eq_true rfl, Nat.le_of_ble_eq_true rfl⟩ rfl (Nat.le_of_ble_eq_true rfl) (by decide +kernel) ?_
  exact g_iret (by decide +kernel) ⟨by rw [hWσ3.1, hWσ2.1, hWσ1.1] <;> rfl, ⟨by rw [hWσ3.1, hWσ2.1, hWσ1.1] <;> rfl, hWσ3.2.1, ((hWσ1.2.2).tr hWσ2.2.2).tr hWσ3.2.2⟩⟩
set_option maxHeartbeats 2000000 in
theorem c_X1_declineSwap (l : Launch) {σ : Sg} {h r : Nat} (hH : HOK σ h) (hn : r < sz (habs σ h) 3) : Con l 2 yX1_declineSwap cX1_declineSwap 2 (some .int) [vR (2, 0, h), vI (nI r)] σ (fun o σ' => o = some (vI (nI (sz (habs σ h) 3 - 1))) ∧ HW h (setT (habs σ h) 3 (trem ((habs σ h).1 3) r)) σ σ') := by
  refine con_of pn_X1_declineSwap (Nat.le_of_ble_eq_true rfl) (fun hPK hok => ?_)
  show G l (Rm 2) RX1 cX1_declineSwap 2 (some .int) _ 0 [some (vR (2, 0, h)), some (vI (nI r))] [] σ
  refine g_blk (pc' := 5) (loc' := [some (vR (2, 0, h)), some (vI (nI r))]) (st' := [vI (nI r), vR (0, 3, h)]) (σ' := σ) fl1_ok [(0, .aload_n 0), (1, .getfield 26), (4, .iload_n 1)] (by decide +kernel) rfl rfl ?_
  refine g_callV (0, 3, h) [vI (nI r)] [] vl_RX1_164 mi_X3_remove (ct_remove l hH 3 (by decide) hn) rfl rfl rfl rfl ⟨Nat.le_of_ble_eq_true rfl, Nat.le_of_ble_eq_true rfl⟩ rfl (Nat.le_of_ble_eq_true rfl) (by decide +kernel) (fun o σ1 hPσ1 => ?_)
  obtain ⟨rfl, hWσ1⟩ := hPσ1
  refine g_blk (pc' := 12) (loc' := [some (vR (2, 0, h)), some (vI (nI r))]) (st' := [vR (0, 3, h)]) (σ' := σ1) fl1_ok [(8, .aload_n 0), (9, .getfield 26)] (by decide +kernel) rfl rfl ?_
  refine g_callVp (0, 3, h) [] [] vl_RX1_66 mi_X3_size (ct_size l hWσ1.2.1 3 (by decide)) rfl rfl rfl rfl ⟨Nat.le_of_ble_eq_true rfl, Nat.le_of_ble_eq_true rfl⟩ rfl (Nat.le_of_ble_eq_true rfl) (by decide +kernel) ?_
  exact g_iret (by decide +kernel) ⟨by rw [hWσ1.1] <;> rfl, ⟨by rw [hWσ1.1] <;> rfl, hWσ1.2.1, hWσ1.2.2⟩⟩
set_option maxHeartbeats 2000000 in
theorem c_X1_payDebt (l : Launch) {σ : Sg} {h : Nat} (r a : Int32) (hH : HOK σ h) : Con l 3 yX1_payDebt cX1_payDebt 4 (some .int) [vR (2, 0, h), vI r, vI a] σ (fun o σ' => o = some (vI (cl (payS (habs σ h) r a) 0 r 4)) ∧ HW h (payS (habs σ h) r a) σ σ') := by
  refine con_of pn_X1_payDebt (Nat.le_of_ble_eq_true rfl) (fun hPK hok => ?_)
  show G l (Rm 3) RX1 cX1_payDebt 4 (some .int) _ 0 [some (vR (2, 0, h)), some (vI r), some (vI a), none] [] σ
  refine g_blk (pc' := 6) (loc' := [some (vR (2, 0, h)), some (vI r), some (vI a), none]) (st' := [vI (0 : Int32), vI a, vR (0, 1, h)]) (σ' := σ) fl1_ok [(0, .aload_n 0), (1, .getfield 20), (4, .iload_n 2), (5, .iconst 0)] (by decide +kernel) rfl rfl ?_
  refine g_callVp (0, 1, h) [vI a, vI (0 : Int32)] [] vl_RX1_58 mi_X3_cell (ct_cell l hH 1 (by decide) a (0 : Int32)) rfl rfl rfl rfl ⟨Nat.le_of_ble_eq_true rfl, Nat.le_of_ble_eq_true rfl⟩ rfl (Nat.le_of_ble_eq_true rfl) (by decide +kernel) ?_
  refine g_blk (pc' := 15) (loc' := [some (vR (2, 0, h)), some (vI r), some (vI a), none]) (st' := [vI (4 : Int32), vI r, vR (0, 0, h), vI (cl (habs σ h) 1 a (0 : Int32))]) (σ' := σ) fl1_ok [(9, .aload_n 0), (10, .getfield 16), (13, .iload_n 1), (14, .iconst 4)] (by decide +kernel) rfl rfl ?_
  refine g_callVp (0, 0, h) [vI r, vI (4 : Int32)] [vI (cl (habs σ h) 1 a (0 : Int32))] vl_RX1_58 mi_X3_cell (ct_cell l hH 0 (by decide) r (4 : Int32)) rfl rfl rfl rfl ⟨Nat.le_of_ble_eq_true rfl, Nat.le_of_ble_eq_true rfl⟩ rfl (Nat.le_of_ble_eq_true rfl) (by decide +kernel) ?_
  refine g_min jl_RX1_146 ⟨Nat.le_of_ble_eq_true rfl, Nat.le_of_ble_eq_true rfl⟩ (by decide +kernel) ?_
  refine g_blk (pc' := 30) (loc' := [some (vR (2, 0, h)), some (vI r), some (vI a), some (vI (if (cl (habs σ h) 0 r (4 : Int32)) < (cl (habs σ h) 1 a (0 : Int32)) then (cl (habs σ h) 0 r (4 : Int32)) else (cl (habs σ h) 1 a (0 : Int32))))]) (st' := [vI (-(if (cl (habs σ h) 0 r (4 : Int32)) < (cl (habs σ h) 1 a (0 : Int32)) then (cl (habs σ h) 0 r (4 : Int32)) else (cl (habs σ h) 1 a (0 : Int32)))), vI (4 : Int32), vI r, vR (0, 0, h)]) (σ' := σ) fl1_ok [(21, .istore_n 3), (22, .aload_n 0), (23, .getfield 16), (26, .iload_n 1), (27, .iconst 4), (28, .iload_n 3), (29, .ineg)] (by decide +kernel) rfl rfl ?_
  refine g_callV (0, 0, h) [vI r, vI (4 : Int32), vI (-(if (cl (habs σ h) 0 r (4 : Int32)) < (cl (habs σ h) 1 a (0 : Int32)) then (cl (habs σ h) 0 r (4 : Int32)) else (cl (habs σ h) 1 a (0 : Int32))))] [] vl_RX1_74 mi_X3_increase (ct_increase l hH 0 (by decide) r (4 : Int32) (-(if (cl (habs σ h) 0 r (4 : Int32)) < (cl (habs σ h) 1 a (0 : Int32)) then (cl (habs σ h) 0 r (4 : Int32)) else (cl (habs σ h) 1 a (0 : Int32))))) rfl rfl rfl rfl ⟨Nat.le_of_ble_eq_true rfl, Nat.le_of_ble_eq_true rfl⟩ rfl (Nat.le_of_ble_eq_true rfl) (by decide +kernel) (fun o σ1 hPσ1 => ?_)
  obtain ⟨rfl, hWσ1⟩ := hPσ1
  refine g_blk (pc' := 40) (loc' := [some (vR (2, 0, h)), some (vI r), some (vI a), some (vI (if (cl (habs σ h) 0 r (4 : Int32)) < (cl (habs σ h) 1 a (0 : Int32)) then (cl (habs σ h) 0 r (4 : Int32)) else (cl (habs σ h) 1 a (0 : Int32))))]) (st' := [vI (if (cl (habs σ h) 0 r (4 : Int32)) < (cl (habs σ h) 1 a (0 : Int32)) then (cl (habs σ h) 0 r (4 : Int32)) else (cl (habs σ h) 1 a (0 : Int32))), vI (3 : Int32), vI r, vR (0, 0, h)]) (σ' := σ1) fl1_ok [(33, .aload_n 0), (34, .getfield 16), (37, .iload_n 1), (38, .iconst 3), (39, .iload_n 3)] (by decide +kernel) rfl rfl ?_
  refine g_callV (0, 0, h) [vI r, vI (3 : Int32), vI (if (cl (habs σ h) 0 r (4 : Int32)) < (cl (habs σ h) 1 a (0 : Int32)) then (cl (habs σ h) 0 r (4 : Int32)) else (cl (habs σ h) 1 a (0 : Int32)))] [] vl_RX1_74 mi_X3_increase (ct_increase l hWσ1.2.1 0 (by decide) r (3 : Int32) (if (cl (habs σ h) 0 r (4 : Int32)) < (cl (habs σ h) 1 a (0 : Int32)) then (cl (habs σ h) 0 r (4 : Int32)) else (cl (habs σ h) 1 a (0 : Int32)))) rfl rfl rfl rfl ⟨Nat.le_of_ble_eq_true rfl, Nat.le_of_ble_eq_true rfl⟩ rfl (Nat.le_of_ble_eq_true rfl) (by decide +kernel) (fun o σ2 hPσ2 => ?_)
  obtain ⟨rfl, hWσ2⟩ := hPσ2
  refine g_blk (pc' := 45) (loc' := [some (vR (2, 0, h)), some (vI r), some (vI a), some (vI (if (cl (habs σ h) 0 r (4 : Int32)) < (cl (habs σ h) 1 a (0 : Int32)) then (cl (habs σ h) 0 r (4 : Int32)) else (cl (habs σ h) 1 a (0 : Int32))))]) (st' := [vI a, vR (2, 0, h)]) (σ' := σ2) fl1_ok [(43, .aload_n 0), (44, .iload_n 2)] (by decide +kernel) rfl rfl ?_
  refine g_callV (2, 0, h) [vI a] [] vl_RX1_133 mi_X1_clean (c_X1_clean l a hWσ2.2.1) rfl rfl rfl rfl ⟨Nat.le_of_ble_eq_true rfl, Nat.le_of_ble_eq_true rfl⟩ rfl (Nat.le_of_ble_eq_true rfl) (by decide +kernel) (fun o σ3 hPσ3 => ?_)
  obtain ⟨rfl, hWσ3⟩ := hPσ3
  refine g_blk (pc' := 54) (loc' := [some (vR (2, 0, h)), some (vI r), some (vI a), some (vI (if (cl (habs σ h) 0 r (4 : Int32)) < (cl (habs σ h) 1 a (0 : Int32)) then (cl (habs σ h) 0 r (4 : Int32)) else (cl (habs σ h) 1 a (0 : Int32))))]) (st' := [vI (4 : Int32), vI r, vR (0, 0, h)]) (σ' := σ3) fl1_ok [(48, .aload_n 0), (49, .getfield 16), (52, .iload_n 1), (53, .iconst 4)] (by decide +kernel) rfl rfl ?_
  refine g_callVp (0, 0, h) [vI r, vI (4 : Int32)] [] vl_RX1_58 mi_X3_cell (ct_cell l hWσ3.2.1 0 (by decide) r (4 : Int32)) rfl rfl rfl rfl ⟨Nat.le_of_ble_eq_true rfl, Nat.le_of_ble_eq_true rfl⟩ rfl (Nat.le_of_ble_eq_true rfl) (by decide +kernel) ?_
  exact g_iret (by decide +kernel) ⟨by rw [hWσ3.1, hWσ2.1, hWσ1.1] <;> rfl, ⟨by rw [hWσ3.1, hWσ2.1, hWσ1.1] <;> rfl, hWσ3.2.1, ((hWσ1.2.2).tr hWσ2.2.2).tr hWσ3.2.2⟩⟩
set_option maxHeartbeats 2000000 in
theorem c_X1_skip (l : Launch) {σ : Sg} {h : Nat} (t : Int32) (hH : HOK σ h) : Con l 2 yX1_skip cX1_skip 4 none [vR (2, 0, h), vI t] σ (fun o σ' => o = none ∧ HW h (skipS (habs σ h) t) σ σ') := by
  refine con_of pn_X1_skip (Nat.le_of_ble_eq_true rfl) (fun hPK hok => ?_)
  show G l (Rm 2) RX1 cX1_skip 4 none _ 0 [some (vR (2, 0, h)), some (vI t), none, none] [] σ
  refine g_blk (pc' := 6) (loc' := [some (vR (2, 0, h)), some (vI t), none, none]) (st' := [vI (2 : Int32), vI t, vR (0, 2, h)]) (σ' := σ) fl1_ok [(0, .aload_n 0), (1, .getfield 23), (4, .iload_n 1), (5, .iconst 2)] (by decide +kernel) rfl rfl ?_
  refine g_callVp (0, 2, h) [vI t, vI (2 : Int32)] [] vl_RX1_58 mi_X3_cell (ct_cell l hH 2 (by decide) t (2 : Int32)) rfl rfl rfl rfl ⟨Nat.le_of_ble_eq_true rfl, Nat.le_of_ble_eq_true rfl⟩ rfl (Nat.le_of_ble_eq_true rfl) (by decide +kernel) ?_
  refine g_blk (pc' := 16) (loc' := [some (vR (2, 0, h)), some (vI t), some (vI (cl (habs σ h) 2 t (2 : Int32))), none]) (st' := [vI (1 : Int32), vI t, vR (0, 2, h)]) (σ' := σ) fl1_ok [(9, .istore_n 2), (10, .aload_n 0), (11, .getfield 23), (14, .iload_n 1), (15, .iconst 1)] (by decide +kernel) rfl rfl ?_
  refine g_callVp (0, 2, h) [vI t, vI (1 : Int32)] [] vl_RX1_58 mi_X3_cell (ct_cell l hH 2 (by decide) t (1 : Int32)) rfl rfl rfl rfl ⟨Nat.le_of_ble_eq_true rfl, Nat.le_of_ble_eq_true rfl⟩ rfl (Nat.le_of_ble_eq_true rfl) (by decide +kernel) ?_
  refine g_blk (pc' := 30) (loc' := [some (vR (2, 0, h)), some (vI t), some (vI (cl (habs σ h) 2 t (2 : Int32))), some (vI (cl (habs σ h) 2 t (1 : Int32)))]) (st' := []) (σ' := (upd2 σ.1 (2, 0, h) 8 (((habs σ h).2 8) + (1 : Int32)), σ.2)) fl1_ok [(19, .istore_n 3), (20, .aload_n 0), (21, .dup), (22, .getfield 55), (25, .iconst 1), (26, .iadd), (27, .putfield 55)] (by decide +kernel) rfl rfl ?_
  generalize hσ1 : ((upd2 σ.1 (2, 0, h) 8 (((habs σ h).2 8) + (1 : Int32)), σ.2) : Sg) = σ1
  have hWσ1 := hw_F hH (by decide) hσ1
  refine g_blk (pc' := 39) (loc' := [some (vR (2, 0, h)), some (vI t), some (vI (cl (habs σ h) 2 t (2 : Int32))), some (vI (cl (habs σ h) 2 t (1 : Int32)))]) (st' := [vI (-(cl (habs σ h) 2 t (2 : Int32))), vI (6 : Int32), vI (cl (habs σ h) 2 t (1 : Int32)), vR (0, 0, h)]) (σ' := σ1) fl1_ok [(30, .aload_n 0), (31, .getfield 16), (34, .iload_n 3), (35, .bipush 6), (37, .iload_n 2), (38, .ineg)] (by decide +kernel) rfl rfl ?_
  refine g_callV (0, 0, h) [vI (cl (habs σ h) 2 t (1 : Int32)), vI (6 : Int32), vI (-(cl (habs σ h) 2 t (2 : Int32)))] [] vl_RX1_74 mi_X3_increase (ct_increase l hWσ1.2.1 0 (by decide) (cl (habs σ h) 2 t (1 : Int32)) (6 : Int32) (-(cl (habs σ h) 2 t (2 : Int32)))) rfl rfl rfl rfl ⟨Nat.le_of_ble_eq_true rfl, Nat.le_of_ble_eq_true rfl⟩ rfl (Nat.le_of_ble_eq_true rfl) (by decide +kernel) (fun o σ2 hPσ2 => ?_)
  obtain ⟨rfl, hWσ2⟩ := hPσ2
  refine g_blk (pc' := 49) (loc' := [some (vR (2, 0, h)), some (vI t), some (vI (cl (habs σ h) 2 t (2 : Int32))), some (vI (cl (habs σ h) 2 t (1 : Int32)))]) (st' := [vI (cl (habs σ h) 2 t (2 : Int32)), vI (4 : Int32), vI (cl (habs σ h) 2 t (1 : Int32)), vR (0, 0, h)]) (σ' := σ2) fl1_ok [(42, .aload_n 0), (43, .getfield 16), (46, .iload_n 3), (47, .iconst 4), (48, .iload_n 2)] (by decide +kernel) rfl rfl ?_
  refine g_callV (0, 0, h) [vI (cl (habs σ h) 2 t (1 : Int32)), vI (4 : Int32), vI (cl (habs σ h) 2 t (2 : Int32))] [] vl_RX1_74 mi_X3_increase (ct_increase l hWσ2.2.1 0 (by decide) (cl (habs σ h) 2 t (1 : Int32)) (4 : Int32) (cl (habs σ h) 2 t (2 : Int32))) rfl rfl rfl rfl ⟨Nat.le_of_ble_eq_true rfl, Nat.le_of_ble_eq_true rfl⟩ rfl (Nat.le_of_ble_eq_true rfl) (by decide +kernel) (fun o σ3 hPσ3 => ?_)
  obtain ⟨rfl, hWσ3⟩ := hPσ3
  refine g_blk (pc' := 64) (loc' := [some (vR (2, 0, h)), some (vI t), some (vI (cl (habs σ h) 2 t (2 : Int32))), some (vI (cl (habs σ h) 2 t (1 : Int32)))]) (st' := [vI (0 : Int32), vI (0 : Int32), vR (0, 4, h), vI (5 : Int32), vI (cl (habs σ h) 2 t (1 : Int32)), vR (0, 0, h)]) (σ' := σ3) fl1_ok [(52, .aload_n 0), (53, .getfield 16), (56, .iload_n 3), (57, .iconst 5), (58, .aload_n 0), (59, .getfield 29), (62, .iconst 0), (63, .iconst 0)] (by decide +kernel) rfl rfl ?_
  refine g_callVp (0, 4, h) [vI (0 : Int32), vI (0 : Int32)] [vI (5 : Int32), vI (cl (habs σ h) 2 t (1 : Int32)), vR (0, 0, h)] vl_RX1_58 mi_X3_cell (ct_cell l hWσ3.2.1 4 (by decide) (0 : Int32) (0 : Int32)) rfl rfl rfl rfl ⟨Nat.le_of_ble_eq_true rfl, Nat.le_of_ble_eq_true rfl⟩ rfl (Nat.le_of_ble_eq_true rfl) (by decide +kernel) ?_
  refine g_callV (0, 0, h) [vI (cl (habs σ h) 2 t (1 : Int32)), vI (5 : Int32), vI (cl (habs σ3 h) 4 (0 : Int32) (0 : Int32))] [] vl_RX1_74 mi_X3_increase (ct_increase l hWσ3.2.1 0 (by decide) (cl (habs σ h) 2 t (1 : Int32)) (5 : Int32) (cl (habs σ3 h) 4 (0 : Int32) (0 : Int32))) rfl rfl rfl rfl ⟨Nat.le_of_ble_eq_true rfl, Nat.le_of_ble_eq_true rfl⟩ rfl (Nat.le_of_ble_eq_true rfl) (by decide +kernel) (fun o σ4 hPσ4 => ?_)
  obtain ⟨rfl, hWσ4⟩ := hPσ4
  exact g_vret (by decide +kernel) ⟨rfl, ⟨by rw [hWσ4.1, hWσ3.1, hWσ2.1, hWσ1.1] <;> rfl, hWσ4.2.1, (((hWσ1.2.2).tr hWσ2.2.2).tr hWσ3.2.2).tr hWσ4.2.2⟩⟩
set_option maxHeartbeats 2000000 in
theorem lp_X1_drop (l : Launch) {σ0 : Sg} {h : Nat} {S0 : HA} {Tf : TV} (t : Int32) : ∀ (k : Nat) (σ : Sg) (T : TV), HOK σ h → habs σ h = setT S0 3 T → k ≤ T.1 → T.1 ≤ 6 → dropT t k T = Tf → FrH h σ0 σ → G l (Rm 2) RX1 cX1_dropSwapsWith 3 none (fun o σ' => o = none ∧ HW h (setT S0 3 Tf) σ0 σ') 10 [some (vR (2, 0, h)), some (vI t), some (vI (nI k - 1))] [] σ := by
  intro k
  induction k with
  | zero =>
    intro σ T hH hS hk h6 hd hF
    refine g_blk (pc' := 11) (loc' := [some (vR (2, 0, h)), some (vI t), some (vI (nI 0 - 1))]) (st' := [vI (nI 0 - 1)]) (σ' := σ) fl1_ok [(10, .iload_n 2)] (by decide +kernel) rfl rfl ?_
    refine g_if_lt (off := 43) (tgt := 54) (by decide +kernel) (by decide) (fun zc11 => ?_) (fun zc11 => ?_)
    · exact g_vret (by decide +kernel) ⟨rfl, by rw [hS, ← hd]; rfl, hH, hF⟩
    · exact absurd (by decide) zc11
  | succ k ih =>
    intro σ T hH hS hk h6 hd hF
    rw [nI_pred]
    have hT3 : (habs σ h).1 3 = T := by rw [hS]; exact setT_at S0 3 T
    refine g_blk (pc' := 11) (loc' := [some (vR (2, 0, h)), some (vI t), some (vI (nI k))]) (st' := [vI (nI k)]) (σ' := σ) fl1_ok [(10, .iload_n 2)] (by decide +kernel) rfl rfl ?_
    refine g_if_lt (off := 43) (tgt := 54) (by decide +kernel) (by decide) (fun zc11 => ?_) (fun zc11 => ?_)
    · exact absurd zc11 (nI_pos (by omega))
    · refine g_blk (pc' := 20) (loc' := [some (vR (2, 0, h)), some (vI t), some (vI (nI k))]) (st' := [vI (0 : Int32), vI (nI k), vR (0, 3, h)]) (σ' := σ) fl1_ok [(14, .aload_n 0), (15, .getfield 26), (18, .iload_n 2), (19, .iconst 0)] (by decide +kernel) rfl rfl ?_
      refine g_callVp (0, 3, h) [vI (nI k), vI (0 : Int32)] [] vl_RX1_58 mi_X3_cell (ct_cell l hH 3 (by decide) (nI k) (0 : Int32)) rfl rfl rfl rfl ⟨Nat.le_of_ble_eq_true rfl, Nat.le_of_ble_eq_true rfl⟩ rfl (Nat.le_of_ble_eq_true rfl) (by decide +kernel) ?_
      refine g_blk (pc' := 24) (loc' := [some (vR (2, 0, h)), some (vI t), some (vI (nI k))]) (st' := [vI t, vI (cl (habs σ h) 3 (nI k) (0 : Int32))]) (σ' := σ) fl1_ok [(23, .iload_n 1)] (by decide +kernel) rfl rfl ?_
      refine g_icmp_eq (off := 16) (tgt := 40) (by decide +kernel) (by decide) (fun zc24 => ?_) (fun zc24 => ?_)
      · refine g_blk (pc' := 45) (loc' := [some (vR (2, 0, h)), some (vI t), some (vI (nI k))]) (st' := [vI (nI k), vR (0, 3, h)]) (σ' := σ) fl1_ok [(40, .aload_n 0), (41, .getfield 26), (44, .iload_n 2)] (by decide +kernel) rfl rfl ?_
        refine g_callV (0, 3, h) [vI (nI k)] [] vl_RX1_164 mi_X3_remove (ct_remove l hH 3 (by decide) (show k < sz (habs σ h) 3 by rw [sz, hT3]; omega)) rfl rfl rfl rfl ⟨Nat.le_of_ble_eq_true rfl, Nat.le_of_ble_eq_true rfl⟩ rfl (Nat.le_of_ble_eq_true rfl) (by decide +kernel) (fun o σ1 hPσ1 => ?_)
        obtain ⟨rfl, hWσ1⟩ := hPσ1
        refine g_blk (pc' := 10) (loc' := [some (vR (2, 0, h)), some (vI t), some (vI ((nI k) + (-1 : Int32)))]) (st' := []) (σ' := σ1) fl1_ok [(48, .iinc 2 (-1)), (51, .goto (-41))] (by decide +kernel) rfl rfl ?_
        rw [im1]
        rw [cl, hT3] at zc24
        rw [dropT, if_pos zc24] at hd
        exact ih σ1 (trem T k) hWσ1.2.1 (by rw [hWσ1.1, hT3, hS, setT_tw]) (by show k ≤ T.1 - 1; omega) (by show T.1 - 1 ≤ 6; omega) hd (hF.tr (hWσ1.2.2))
      · refine g_blk (pc' := 33) (loc' := [some (vR (2, 0, h)), some (vI t), some (vI (nI k))]) (st' := [vI (1 : Int32), vI (nI k), vR (0, 3, h)]) (σ' := σ) fl1_ok [(27, .aload_n 0), (28, .getfield 26), (31, .iload_n 2), (32, .iconst 1)] (by decide +kernel) rfl rfl ?_
        refine g_callVp (0, 3, h) [vI (nI k), vI (1 : Int32)] [] vl_RX1_58 mi_X3_cell (ct_cell l hH 3 (by decide) (nI k) (1 : Int32)) rfl rfl rfl rfl ⟨Nat.le_of_ble_eq_true rfl, Nat.le_of_ble_eq_true rfl⟩ rfl (Nat.le_of_ble_eq_true rfl) (by decide +kernel) ?_
        refine g_blk (pc' := 37) (loc' := [some (vR (2, 0, h)), some (vI t), some (vI (nI k))]) (st' := [vI t, vI (cl (habs σ h) 3 (nI k) (1 : Int32))]) (σ' := σ) fl1_ok [(36, .iload_n 1)] (by decide +kernel) rfl rfl ?_
        refine g_icmp_ne (off := 11) (tgt := 48) (by decide +kernel) (by decide) (fun zc37 => ?_) (fun zc37 => ?_)
        · refine g_blk (pc' := 10) (loc' := [some (vR (2, 0, h)), some (vI t), some (vI ((nI k) + (-1 : Int32)))]) (st' := []) (σ' := σ) fl1_ok [(48, .iinc 2 (-1)), (51, .goto (-41))] (by decide +kernel) rfl rfl ?_
          rw [im1]
          rw [cl, hT3] at zc24
          rw [cl, hT3] at zc37
          rw [dropT, if_neg zc24, if_pos zc37] at hd
          exact ih σ T hH hS (by omega) h6 hd hF
        · refine g_blk (pc' := 45) (loc' := [some (vR (2, 0, h)), some (vI t), some (vI (nI k))]) (st' := [vI (nI k), vR (0, 3, h)]) (σ' := σ) fl1_ok [(40, .aload_n 0), (41, .getfield 26), (44, .iload_n 2)] (by decide +kernel) rfl rfl ?_
          refine g_callV (0, 3, h) [vI (nI k)] [] vl_RX1_164 mi_X3_remove (ct_remove l hH 3 (by decide) (show k < sz (habs σ h) 3 by rw [sz, hT3]; omega)) rfl rfl rfl rfl ⟨Nat.le_of_ble_eq_true rfl, Nat.le_of_ble_eq_true rfl⟩ rfl (Nat.le_of_ble_eq_true rfl) (by decide +kernel) (fun o σ2 hPσ2 => ?_)
          obtain ⟨rfl, hWσ2⟩ := hPσ2
          refine g_blk (pc' := 10) (loc' := [some (vR (2, 0, h)), some (vI t), some (vI ((nI k) + (-1 : Int32)))]) (st' := []) (σ' := σ2) fl1_ok [(48, .iinc 2 (-1)), (51, .goto (-41))] (by decide +kernel) rfl rfl ?_
          rw [im1]
          rw [cl, hT3] at zc24
          rw [cl, hT3] at zc37
          rw [dropT, if_neg zc24, if_neg (not_not_intro zc37)] at hd
          exact ih σ2 (trem T k) hWσ2.2.1 (by rw [hWσ2.1, hT3, hS, setT_tw]) (by show k ≤ T.1 - 1; omega) (by show T.1 - 1 ≤ 6; omega) hd (hF.tr (hWσ2.2.2))
set_option maxHeartbeats 2000000 in
theorem c_X1_dropSwapsWith (l : Launch) {σ : Sg} {h : Nat} (t : Int32) (hH : HOK σ h) : Con l 2 yX1_dropSwapsWith cX1_dropSwapsWith 3 none [vR (2, 0, h), vI t] σ (fun o σ' => o = none ∧ HW h (dropS (habs σ h) t) σ σ') := by
  refine con_of pn_X1_dropSwapsWith (Nat.le_of_ble_eq_true rfl) (fun hPK hok => ?_)
  show G l (Rm 2) RX1 cX1_dropSwapsWith 3 none _ 0 [some (vR (2, 0, h)), some (vI t), none] [] σ
  refine g_blk (pc' := 4) (loc' := [some (vR (2, 0, h)), some (vI t), none]) (st' := [vR (0, 3, h)]) (σ' := σ) fl1_ok [(0, .aload_n 0), (1, .getfield 26)] (by decide +kernel) rfl rfl ?_
  refine g_callVp (0, 3, h) [] [] vl_RX1_66 mi_X3_size (ct_size l hH 3 (by decide)) rfl rfl rfl rfl ⟨Nat.le_of_ble_eq_true rfl, Nat.le_of_ble_eq_true rfl⟩ rfl (Nat.le_of_ble_eq_true rfl) (by decide +kernel) ?_
  refine g_blk (pc' := 10) (loc' := [some (vR (2, 0, h)), some (vI t), some (vI ((nI (sz (habs σ h) 3)) - (1 : Int32)))]) (st' := []) (σ' := σ) fl1_ok [(7, .iconst 1), (8, .isub), (9, .istore_n 2)] (by decide +kernel) rfl rfl ?_
  exact lp_X1_drop l t (sz (habs σ h) 3) σ ((habs σ h).1 3) hH (setT_self (habs σ h) 3).symm (Nat.le_refl _) (ha_N hH 3 (by decide)) rfl FrH.rf
set_option maxHeartbeats 2000000 in
theorem c_X1_finish (l : Launch) {σ : Sg} {h : Nat} (t : Int32) (hH : HOK σ h) : Con l 3 yX1_finish cX1_finish 4 (some .int) [vR (2, 0, h), vI t] σ (fun o σ' => o = some (vI (cl (habs σ h) 2 t 2)) ∧ HW h (finS (habs σ h) t) σ σ') := by
  refine con_of pn_X1_finish (Nat.le_of_ble_eq_true rfl) (fun hPK hok => ?_)
  show G l (Rm 3) RX1 cX1_finish 4 (some .int) _ 0 [some (vR (2, 0, h)), some (vI t), none, none] [] σ
  refine g_blk (pc' := 6) (loc' := [some (vR (2, 0, h)), some (vI t), none, none]) (st' := [vI (2 : Int32), vI t, vR (0, 2, h)]) (σ' := σ) fl1_ok [(0, .aload_n 0), (1, .getfield 23), (4, .iload_n 1), (5, .iconst 2)] (by decide +kernel) rfl rfl ?_
  refine g_callVp (0, 2, h) [vI t, vI (2 : Int32)] [] vl_RX1_58 mi_X3_cell (ct_cell l hH 2 (by decide) t (2 : Int32)) rfl rfl rfl rfl ⟨Nat.le_of_ble_eq_true rfl, Nat.le_of_ble_eq_true rfl⟩ rfl (Nat.le_of_ble_eq_true rfl) (by decide +kernel) ?_
  refine g_blk (pc' := 16) (loc' := [some (vR (2, 0, h)), some (vI t), some (vI (cl (habs σ h) 2 t (2 : Int32))), none]) (st' := [vI (1 : Int32), vI t, vR (0, 2, h)]) (σ' := σ) fl1_ok [(9, .istore_n 2), (10, .aload_n 0), (11, .getfield 23), (14, .iload_n 1), (15, .iconst 1)] (by decide +kernel) rfl rfl ?_
  refine g_callVp (0, 2, h) [vI t, vI (1 : Int32)] [] vl_RX1_58 mi_X3_cell (ct_cell l hH 2 (by decide) t (1 : Int32)) rfl rfl rfl rfl ⟨Nat.le_of_ble_eq_true rfl, Nat.le_of_ble_eq_true rfl⟩ rfl (Nat.le_of_ble_eq_true rfl) (by decide +kernel) ?_
  refine g_blk (pc' := 27) (loc' := [some (vR (2, 0, h)), some (vI t), some (vI (cl (habs σ h) 2 t (2 : Int32))), some (vI (cl (habs σ h) 2 t (1 : Int32)))]) (st' := [vI (1 : Int32), vI (3 : Int32), vI t, vR (0, 2, h)]) (σ' := σ) fl1_ok [(19, .istore_n 3), (20, .aload_n 0), (21, .getfield 23), (24, .iload_n 1), (25, .iconst 3), (26, .iconst 1)] (by decide +kernel) rfl rfl ?_
  refine g_callV (0, 2, h) [vI t, vI (3 : Int32), vI (1 : Int32)] [] vl_RX1_36 mi_X3_write (ct_write l hH 2 (by decide) t (3 : Int32) (1 : Int32)) rfl rfl rfl rfl ⟨Nat.le_of_ble_eq_true rfl, Nat.le_of_ble_eq_true rfl⟩ rfl (Nat.le_of_ble_eq_true rfl) (by decide +kernel) (fun o σ1 hPσ1 => ?_)
  obtain ⟨rfl, hWσ1⟩ := hPσ1
  refine g_blk (pc' := 40) (loc' := [some (vR (2, 0, h)), some (vI t), some (vI (cl (habs σ h) 2 t (2 : Int32))), some (vI (cl (habs σ h) 2 t (1 : Int32)))]) (st' := []) (σ' := (upd2 σ1.1 (2, 0, h) 7 (((habs σ1 h).2 7) + (1 : Int32)), σ1.2)) fl1_ok [(30, .aload_n 0), (31, .dup), (32, .getfield 52), (35, .iconst 1), (36, .iadd), (37, .putfield 52)] (by decide +kernel) rfl rfl ?_
  generalize hσ2 : ((upd2 σ1.1 (2, 0, h) 7 (((habs σ1 h).2 7) + (1 : Int32)), σ1.2) : Sg) = σ2
  have hWσ2 := hw_F hWσ1.2.1 (by decide) hσ2
  refine g_blk (pc' := 49) (loc' := [some (vR (2, 0, h)), some (vI t), some (vI (cl (habs σ h) 2 t (2 : Int32))), some (vI (cl (habs σ h) 2 t (1 : Int32)))]) (st' := [vI (-(cl (habs σ h) 2 t (2 : Int32))), vI (6 : Int32), vI (cl (habs σ h) 2 t (1 : Int32)), vR (0, 0, h)]) (σ' := σ2) fl1_ok [(40, .aload_n 0), (41, .getfield 16), (44, .iload_n 3), (45, .bipush 6), (47, .iload_n 2), (48, .ineg)] (by decide +kernel) rfl rfl ?_
  refine g_callV (0, 0, h) [vI (cl (habs σ h) 2 t (1 : Int32)), vI (6 : Int32), vI (-(cl (habs σ h) 2 t (2 : Int32)))] [] vl_RX1_74 mi_X3_increase (ct_increase l hWσ2.2.1 0 (by decide) (cl (habs σ h) 2 t (1 : Int32)) (6 : Int32) (-(cl (habs σ h) 2 t (2 : Int32)))) rfl rfl rfl rfl ⟨Nat.le_of_ble_eq_true rfl, Nat.le_of_ble_eq_true rfl⟩ rfl (Nat.le_of_ble_eq_true rfl) (by decide +kernel) (fun o σ3 hPσ3 => ?_)
  obtain ⟨rfl, hWσ3⟩ := hPσ3
  refine g_blk (pc' := 59) (loc' := [some (vR (2, 0, h)), some (vI t), some (vI (cl (habs σ h) 2 t (2 : Int32))), some (vI (cl (habs σ h) 2 t (1 : Int32)))]) (st' := [vI (cl (habs σ h) 2 t (2 : Int32)), vI (3 : Int32), vI (cl (habs σ h) 2 t (1 : Int32)), vR (0, 0, h)]) (σ' := σ3) fl1_ok [(52, .aload_n 0), (53, .getfield 16), (56, .iload_n 3), (57, .iconst 3), (58, .iload_n 2)] (by decide +kernel) rfl rfl ?_
  refine g_callV (0, 0, h) [vI (cl (habs σ h) 2 t (1 : Int32)), vI (3 : Int32), vI (cl (habs σ h) 2 t (2 : Int32))] [] vl_RX1_74 mi_X3_increase (ct_increase l hWσ3.2.1 0 (by decide) (cl (habs σ h) 2 t (1 : Int32)) (3 : Int32) (cl (habs σ h) 2 t (2 : Int32))) rfl rfl rfl rfl ⟨Nat.le_of_ble_eq_true rfl, Nat.le_of_ble_eq_true rfl⟩ rfl (Nat.le_of_ble_eq_true rfl) (by decide +kernel) (fun o σ4 hPσ4 => ?_)
  obtain ⟨rfl, hWσ4⟩ := hPσ4
  refine g_blk (pc' := 64) (loc' := [some (vR (2, 0, h)), some (vI t), some (vI (cl (habs σ h) 2 t (2 : Int32))), some (vI (cl (habs σ h) 2 t (1 : Int32)))]) (st' := [vI t, vR (2, 0, h)]) (σ' := σ4) fl1_ok [(62, .aload_n 0), (63, .iload_n 1)] (by decide +kernel) rfl rfl ?_
  refine g_callVp (2, 0, h) [vI t] [] vl_RX1_130 mi_X1_isTwinOpen (c_X1_isTwinOpen l hWσ4.2.1 t) rfl rfl rfl rfl ⟨Nat.le_of_ble_eq_true rfl, Nat.le_of_ble_eq_true rfl⟩ rfl (Nat.le_of_ble_eq_true rfl) (by decide +kernel) ?_
  refine g_if_ne (off := 16) (tgt := 83) (by decide +kernel) (by decide) (fun zc67 => ?_) (fun zc67 => ?_)
  · refine g_blk (pc' := 85) (loc' := [some (vR (2, 0, h)), some (vI t), some (vI (cl (habs σ h) 2 t (2 : Int32))), some (vI (cl (habs σ h) 2 t (1 : Int32)))]) (st' := [vI t, vR (2, 0, h)]) (σ' := σ4) fl1_ok [(83, .aload_n 0), (84, .iload_n 1)] (by decide +kernel) rfl rfl ?_
    refine g_callV (2, 0, h) [vI t] [] vl_RX1_137 mi_X1_dropSwapsWith (c_X1_dropSwapsWith l t hWσ4.2.1) rfl rfl rfl rfl ⟨Nat.le_of_ble_eq_true rfl, Nat.le_of_ble_eq_true rfl⟩ rfl (Nat.le_of_ble_eq_true rfl) (by decide +kernel) (fun o σ5 hPσ5 => ?_)
    obtain ⟨rfl, hWσ5⟩ := hPσ5
    refine g_blk (pc' := 89) (loc' := [some (vR (2, 0, h)), some (vI t), some (vI (cl (habs σ h) 2 t (2 : Int32))), some (vI (cl (habs σ h) 2 t (1 : Int32)))]) (st' := [vI (cl (habs σ h) 2 t (2 : Int32))]) (σ' := σ5) fl1_ok [(88, .iload_n 2)] (by decide +kernel) rfl rfl ?_
    rw [hWσ4.1, hWσ3.1, hWσ2.1, hWσ1.1] at zc67
    refine g_iret (by decide +kernel) ⟨rfl, ⟨?_, hWσ5.2.1, ((((hWσ1.2.2).tr hWσ2.2.2).tr hWσ3.2.2).tr hWσ4.2.2).tr hWσ5.2.2⟩⟩
    rw [hWσ5.1, hWσ4.1, hWσ3.1, hWσ2.1, hWσ1.1]
    unfold finS
    simp only
    rw [if_pos zc67]
  · refine g_blk (pc' := 77) (loc' := [some (vR (2, 0, h)), some (vI t), some (vI (cl (habs σ h) 2 t (2 : Int32))), some (vI (cl (habs σ h) 2 t (1 : Int32)))]) (st' := [vI (0 : Int32), vI t, vR (0, 2, h), vR (2, 0, h)]) (σ' := σ4) fl1_ok [(70, .aload_n 0), (71, .aload_n 0), (72, .getfield 23), (75, .iload_n 1), (76, .iconst 0)] (by decide +kernel) rfl rfl ?_
    refine g_callVp (0, 2, h) [vI t, vI (0 : Int32)] [vR (2, 0, h)] vl_RX1_58 mi_X3_cell (ct_cell l hWσ4.2.1 2 (by decide) t (0 : Int32)) rfl rfl rfl rfl ⟨Nat.le_of_ble_eq_true rfl, Nat.le_of_ble_eq_true rfl⟩ rfl (Nat.le_of_ble_eq_true rfl) (by decide +kernel) ?_
    refine g_callV (2, 0, h) [vI (cl (habs σ4 h) 2 t (0 : Int32))] [] vl_RX1_133 mi_X1_clean (c_X1_clean l (cl (habs σ4 h) 2 t (0 : Int32)) hWσ4.2.1) rfl rfl rfl rfl ⟨Nat.le_of_ble_eq_true rfl, Nat.le_of_ble_eq_true rfl⟩ rfl (Nat.le_of_ble_eq_true rfl) (by decide +kernel) (fun o σ6 hPσ6 => ?_)
    obtain ⟨rfl, hWσ6⟩ := hPσ6
    refine g_blk (pc' := 85) (loc' := [some (vR (2, 0, h)), some (vI t), some (vI (cl (habs σ h) 2 t (2 : Int32))), some (vI (cl (habs σ h) 2 t (1 : Int32)))]) (st' := [vI t, vR (2, 0, h)]) (σ' := σ6) fl1_ok [(83, .aload_n 0), (84, .iload_n 1)] (by decide +kernel) rfl rfl ?_
    refine g_callV (2, 0, h) [vI t] [] vl_RX1_137 mi_X1_dropSwapsWith (c_X1_dropSwapsWith l t hWσ6.2.1) rfl rfl rfl rfl ⟨Nat.le_of_ble_eq_true rfl, Nat.le_of_ble_eq_true rfl⟩ rfl (Nat.le_of_ble_eq_true rfl) (by decide +kernel) (fun o σ7 hPσ7 => ?_)
    obtain ⟨rfl, hWσ7⟩ := hPσ7
    refine g_blk (pc' := 89) (loc' := [some (vR (2, 0, h)), some (vI t), some (vI (cl (habs σ h) 2 t (2 : Int32))), some (vI (cl (habs σ h) 2 t (1 : Int32)))]) (st' := [vI (cl (habs σ h) 2 t (2 : Int32))]) (σ' := σ7) fl1_ok [(88, .iload_n 2)] (by decide +kernel) rfl rfl ?_
    rw [hWσ4.1, hWσ3.1, hWσ2.1, hWσ1.1] at zc67
    refine g_iret (by decide +kernel) ⟨rfl, ⟨?_, hWσ7.2.1, (((((hWσ1.2.2).tr hWσ2.2.2).tr hWσ3.2.2).tr hWσ4.2.2).tr hWσ6.2.2).tr hWσ7.2.2⟩⟩
    rw [hWσ7.1, hWσ6.1, hWσ4.1, hWσ3.1, hWσ2.1, hWσ1.1]
    unfold finS
    simp only
    rw [if_neg (not_not_intro zc67)]
set_option maxHeartbeats 2000000 in
theorem lp_X1_finG (l : Launch) {σ0 : Sg} {h : Nat} {Sf : HA} (last : Int32) : ∀ (k t : Nat) (σ : Sg), HOK σ h → t < 2 ^ 30 → sz (habs σ h) 2 ≤ t + k → finG last k t (habs σ h) = Sf → FrH h σ0 σ → G l (Rm 4) RX1 cX1_finishFromTo 4 none (fun o σ' => o = none ∧ HW h Sf σ0 σ') 2 [some (vR (2, 0, h)), none, some (vI last), some (vI (nI t))] [] σ := by
  intro k
  induction k with
  | zero =>
    intro t σ hH ht hk hd hF
    refine g_blk (pc' := 4) (loc' := [some (vR (2, 0, h)), none, some (vI last), some (vI (nI t))]) (st' := [vI last, vI (nI t)]) (σ' := σ) fl1_ok [(2, .iload_n 3), (3, .iload_n 2)] (by decide +kernel) rfl rfl ?_
    refine g_icmp_gt (off := 34) (tgt := 38) (by decide +kernel) (by decide) (fun zc4 => ?_) (fun zc4 => ?_)
    · exact g_vret (by decide +kernel) ⟨rfl, ⟨hd, hH, hF⟩⟩
    · refine g_blk (pc' := 12) (loc' := [some (vR (2, 0, h)), none, some (vI last), some (vI (nI t))]) (st' := [vR (0, 2, h), vI (nI t)]) (σ' := σ) fl1_ok [(7, .iload_n 3), (8, .aload_n 0), (9, .getfield 23)] (by decide +kernel) rfl rfl ?_
      refine g_callVp (0, 2, h) [] [vI (nI t)] vl_RX1_66 mi_X3_size (ct_size l hH 2 (by decide)) rfl rfl rfl rfl ⟨Nat.le_of_ble_eq_true rfl, Nat.le_of_ble_eq_true rfl⟩ rfl (Nat.le_of_ble_eq_true rfl) (by decide +kernel) ?_
      refine g_icmp_ge (off := 23) (tgt := 38) (by decide +kernel) (by decide) (fun zc15 => ?_) (fun zc15 => ?_)
      · have hm : sz (habs σ h) 2 ≤ 12 := ha_N hH 2 (by decide)
        rw [nI_leI (by omega) (by omega)] at zc15
        exact g_vret (by decide +kernel) ⟨rfl, ⟨hd, hH, hF⟩⟩
      · have hm : sz (habs σ h) 2 ≤ 12 := ha_N hH 2 (by decide)
        rw [nI_leI (by omega) (by omega)] at zc15
        exact absurd (by omega) zc15
  | succ k ih =>
    intro t σ hH ht hk hd hF
    refine g_blk (pc' := 4) (loc' := [some (vR (2, 0, h)), none, some (vI last), some (vI (nI t))]) (st' := [vI last, vI (nI t)]) (σ' := σ) fl1_ok [(2, .iload_n 3), (3, .iload_n 2)] (by decide +kernel) rfl rfl ?_
    refine g_icmp_gt (off := 34) (tgt := 38) (by decide +kernel) (by decide) (fun zc4 => ?_) (fun zc4 => ?_)
    · rw [finG, if_pos zc4] at hd
      exact g_vret (by decide +kernel) ⟨rfl, ⟨hd, hH, hF⟩⟩
    · refine g_blk (pc' := 12) (loc' := [some (vR (2, 0, h)), none, some (vI last), some (vI (nI t))]) (st' := [vR (0, 2, h), vI (nI t)]) (σ' := σ) fl1_ok [(7, .iload_n 3), (8, .aload_n 0), (9, .getfield 23)] (by decide +kernel) rfl rfl ?_
      refine g_callVp (0, 2, h) [] [vI (nI t)] vl_RX1_66 mi_X3_size (ct_size l hH 2 (by decide)) rfl rfl rfl rfl ⟨Nat.le_of_ble_eq_true rfl, Nat.le_of_ble_eq_true rfl⟩ rfl (Nat.le_of_ble_eq_true rfl) (by decide +kernel) ?_
      refine g_icmp_ge (off := 23) (tgt := 38) (by decide +kernel) (by decide) (fun zc15 => ?_) (fun zc15 => ?_)
      · have hm : sz (habs σ h) 2 ≤ 12 := ha_N hH 2 (by decide)
        rw [nI_leI (by omega) (by omega)] at zc15
        rw [finG, if_neg zc4, if_pos zc15] at hd
        exact g_vret (by decide +kernel) ⟨rfl, ⟨hd, hH, hF⟩⟩
      · have hm : sz (habs σ h) 2 ≤ 12 := ha_N hH 2 (by decide)
        rw [nI_leI (by omega) (by omega)] at zc15
        refine g_blk (pc' := 20) (loc' := [some (vR (2, 0, h)), none, some (vI last), some (vI (nI t))]) (st' := [vI (nI t), vR (2, 0, h)]) (σ' := σ) fl1_ok [(18, .aload_n 0), (19, .iload_n 3)] (by decide +kernel) rfl rfl ?_
        refine g_callVp (2, 0, h) [vI (nI t)] [] vl_RX1_124 mi_X1_isOpen (c_X1_isOpen l hH (nI t)) rfl rfl rfl rfl ⟨Nat.le_of_ble_eq_true rfl, Nat.le_of_ble_eq_true rfl⟩ rfl (Nat.le_of_ble_eq_true rfl) (by decide +kernel) ?_
        refine g_if_eq (off := 9) (tgt := 32) (by decide +kernel) (by decide) (fun zc23 => ?_) (fun zc23 => ?_)
        · refine g_blk (pc' := 2) (loc' := [some (vR (2, 0, h)), none, some (vI last), some (vI ((nI t) + (1 : Int32)))]) (st' := []) (σ' := σ) fl1_ok [(32, .iinc 3 1), (35, .goto (-33))] (by decide +kernel) rfl rfl ?_
          rw [finG, if_neg zc4, if_neg zc15, if_pos zc23] at hd
          rw [nI_1]
          exact ih (t + 1) σ hH (by omega) (by omega) hd hF
        · refine g_blk (pc' := 28) (loc' := [some (vR (2, 0, h)), none, some (vI last), some (vI (nI t))]) (st' := [vI (nI t), vR (2, 0, h)]) (σ' := σ) fl1_ok [(26, .aload_n 0), (27, .iload_n 3)] (by decide +kernel) rfl rfl ?_
          refine g_callV (2, 0, h) [vI (nI t)] [] vl_RX1_140 mi_X1_finish (c_X1_finish l (nI t) hH) rfl rfl rfl rfl ⟨Nat.le_of_ble_eq_true rfl, Nat.le_of_ble_eq_true rfl⟩ rfl (Nat.le_of_ble_eq_true rfl) (by decide +kernel) (fun o σ1 hPσ1 => ?_)
          obtain ⟨rfl, hWσ1⟩ := hPσ1
          refine g_blk (pc' := 2) (loc' := [some (vR (2, 0, h)), none, some (vI last), some (vI ((nI t) + (1 : Int32)))]) (st' := []) (σ' := σ1) fl1_ok [(31, .pop), (32, .iinc 3 1), (35, .goto (-33))] (by decide +kernel) rfl rfl ?_
          rw [finG, if_neg zc4, if_neg zc15, if_neg zc23] at hd
          rw [nI_1]
          have hsz : sz (habs σ1 h) 2 = sz (habs σ h) 2 := by rw [hWσ1.1]; exact sz_fin _ _
          exact ih (t + 1) σ1 hWσ1.2.1 (by omega) (by omega) (by rw [hWσ1.1]; exact hd) (hF.tr (hWσ1.2.2))
set_option maxHeartbeats 2000000 in
theorem c_X1_finishFromTo (l : Launch) {σ : Sg} {h t : Nat} (last : Int32) (hH : HOK σ h) (ht : t < 2 ^ 30) : Con l 4 yX1_finishFromTo cX1_finishFromTo 4 none [vR (2, 0, h), vI (nI t), vI last] σ (fun o σ' => o = none ∧ HW h (finFT (habs σ h) t last) σ σ') := by
  refine con_of pn_X1_finishFromTo (Nat.le_of_ble_eq_true rfl) (fun hPK hok => ?_)
  show G l (Rm 4) RX1 cX1_finishFromTo 4 none _ 0 [some (vR (2, 0, h)), some (vI (nI t)), some (vI last), none] [] σ
  refine g_blk (pc' := 2) (loc' := [some (vR (2, 0, h)), some (vI (nI t)), some (vI last), some (vI (nI t))]) (st' := []) (σ' := σ) fl1_ok [(0, .iload_n 1), (1, .istore_n 3)] (by decide +kernel) rfl rfl ?_
  refine g_sub (loc' := [some (vR (2, 0, h)), none, some (vI last), some (vI (nI t))]) ⟨Or.inr rfl, Or.inl rfl, Or.inr rfl, Or.inr rfl, trivial⟩ ?_
  exact lp_X1_finG l last (sz (habs σ h) 2) t σ hH ht (by omega) rfl FrH.rf
set_option maxHeartbeats 2000000 in
theorem c_X1_finishOpenTasks (l : Launch) {σ : Sg} {h : Nat} (hH : HOK σ h) : Con l 5 yX1_finishOpenTasks cX1_finishOpenTasks 1 none [vR (2, 0, h)] σ (fun o σ' => o = none ∧ HW h (finFT (habs σ h) 0 (nI (sz (habs σ h) 2) - 1)) σ σ') := by
  refine con_of pn_X1_finishOpenTasks (Nat.le_of_ble_eq_true rfl) (fun hPK hok => ?_)
  show G l (Rm 5) RX1 cX1_finishOpenTasks 1 none _ 0 [some (vR (2, 0, h))] [] σ
  refine g_blk (pc' := 6) (loc' := [some (vR (2, 0, h))]) (st' := [vR (0, 2, h), vI (0 : Int32), vR (2, 0, h)]) (σ' := σ) fl1_ok [(0, .aload_n 0), (1, .iconst 0), (2, .aload_n 0), (3, .getfield 23)] (by decide +kernel) rfl rfl ?_
  refine g_callVp (0, 2, h) [] [vI (0 : Int32), vR (2, 0, h)] vl_RX1_66 mi_X3_size (ct_size l hH 2 (by decide)) rfl rfl rfl rfl ⟨Nat.le_of_ble_eq_true rfl, Nat.le_of_ble_eq_true rfl⟩ rfl (Nat.le_of_ble_eq_true rfl) (by decide +kernel) ?_
  refine g_blk (pc' := 11) (loc' := [some (vR (2, 0, h))]) (st' := [vI ((nI (sz (habs σ h) 2)) - (1 : Int32)), vI (0 : Int32), vR (2, 0, h)]) (σ' := σ) fl1_ok [(9, .iconst 1), (10, .isub)] (by decide +kernel) rfl rfl ?_
  refine g_callV (2, 0, h) [vI (0 : Int32), vI ((nI (sz (habs σ h) 2)) - (1 : Int32))] [] vl_RX1_143 mi_X1_finishFromTo (c_X1_finishFromTo l (t := 0) ((nI (sz (habs σ h) 2)) - (1 : Int32)) hH (by omega)) rfl rfl rfl rfl ⟨Nat.le_of_ble_eq_true rfl, Nat.le_of_ble_eq_true rfl⟩ rfl (Nat.le_of_ble_eq_true rfl) (by decide +kernel) (fun o σ1 hPσ1 => ?_)
  obtain ⟨rfl, hWσ1⟩ := hPσ1
  exact g_vret (by decide +kernel) ⟨rfl, ⟨by rw [hWσ1.1] <;> rfl, hWσ1.2.1, hWσ1.2.2⟩⟩
set_option maxHeartbeats 2000000 in
theorem lp_X1_giveF (l : Launch) {σ0 : Sg} {h : Nat} {Sf : HA} : ∀ (k t : Nat) (σ : Sg), HOK σ h → t + k = sz (habs σ h) 2 → giveF k t (habs σ h) = Sf → FrH h σ0 σ → G l (Rm 4) RX1 cX1_giveTasks 3 none (fun o σ' => o = none ∧ HW h Sf σ0 σ') 2 [some (vR (2, 0, h)), some (vI (nI t)), none] [] σ := by
  intro k
  induction k with
  | zero =>
    intro t σ hH hk hd hF
    refine g_blk (pc' := 7) (loc' := [some (vR (2, 0, h)), some (vI (nI t)), none]) (st' := [vR (0, 2, h), vI (nI t)]) (σ' := σ) fl1_ok [(2, .iload_n 1), (3, .aload_n 0), (4, .getfield 23)] (by decide +kernel) rfl rfl ?_
    refine g_callVp (0, 2, h) [] [vI (nI t)] vl_RX1_66 mi_X3_size (ct_size l hH 2 (by decide)) rfl rfl rfl rfl ⟨Nat.le_of_ble_eq_true rfl, Nat.le_of_ble_eq_true rfl⟩ rfl (Nat.le_of_ble_eq_true rfl) (by decide +kernel) ?_
    refine g_icmp_ge (off := 67) (tgt := 77) (by decide +kernel) (by decide) (fun zc10 => ?_) (fun zc10 => ?_)
    · have hm : sz (habs σ h) 2 ≤ 12 := ha_N hH 2 (by decide)
      rw [nI_leI (by omega) (by omega)] at zc10
      exact g_vret (by decide +kernel) ⟨rfl, ⟨hd, hH, hF⟩⟩
    · have hm : sz (habs σ h) 2 ≤ 12 := ha_N hH 2 (by decide)
      rw [nI_leI (by omega) (by omega)] at zc10
      exact absurd (by omega) zc10
  | succ k ih =>
    intro t σ hH hk hd hF
    refine g_blk (pc' := 7) (loc' := [some (vR (2, 0, h)), some (vI (nI t)), none]) (st' := [vR (0, 2, h), vI (nI t)]) (σ' := σ) fl1_ok [(2, .iload_n 1), (3, .aload_n 0), (4, .getfield 23)] (by decide +kernel) rfl rfl ?_
    refine g_callVp (0, 2, h) [] [vI (nI t)] vl_RX1_66 mi_X3_size (ct_size l hH 2 (by decide)) rfl rfl rfl rfl ⟨Nat.le_of_ble_eq_true rfl, Nat.le_of_ble_eq_true rfl⟩ rfl (Nat.le_of_ble_eq_true rfl) (by decide +kernel) ?_
    refine g_icmp_ge (off := 67) (tgt := 77) (by decide +kernel) (by decide) (fun zc10 => ?_) (fun zc10 => ?_)
    · have hm : sz (habs σ h) 2 ≤ 12 := ha_N hH 2 (by decide)
      rw [nI_leI (by omega) (by omega)] at zc10
      exact absurd zc10 (by omega)
    · have hm : sz (habs σ h) 2 ≤ 12 := ha_N hH 2 (by decide)
      rw [nI_leI (by omega) (by omega)] at zc10
      refine g_blk (pc' := 16) (loc' := [some (vR (2, 0, h)), some (vI (nI t)), none]) (st' := [vI (nI t), vR (2, 0, h), vR (2, 0, h)]) (σ' := σ) fl1_ok [(13, .aload_n 0), (14, .aload_n 0), (15, .iload_n 1)] (by decide +kernel) rfl rfl ?_
      refine g_callVp (2, 0, h) [vI (nI t)] [vR (2, 0, h)] vl_RX1_108 mi_X1_hasTwinAhead (c_X1_hasTwinAhead l hH (nI t)) rfl rfl rfl rfl ⟨Nat.le_of_ble_eq_true rfl, Nat.le_of_ble_eq_true rfl⟩ rfl (Nat.le_of_ble_eq_true rfl) (by decide +kernel) ?_
      refine g_if_eq (off := 17) (tgt := 36) (by decide +kernel) (by decide) (fun zc19 => ?_) (fun zc19 => ?_)
      · refine g_blk (pc' := 38) (loc' := [some (vR (2, 0, h)), some (vI (nI t)), none]) (st' := [vI (-6 : Int32), vR (2, 0, h)]) (σ' := σ) fl1_ok [(36, .bipush (-6))] (by decide +kernel) rfl rfl ?_
        refine g_callVp (2, 0, h) [vI (-6 : Int32)] [] vl_RX1_77 mi_X1_leastLoaded (c_X1_leastLoaded l hH (-6 : Int32)) rfl rfl rfl rfl ⟨Nat.le_of_ble_eq_true rfl, Nat.le_of_ble_eq_true rfl⟩ rfl (Nat.le_of_ble_eq_true rfl) (by decide +kernel) ?_
        refine g_blk (pc' := 49) (loc' := [some (vR (2, 0, h)), some (vI (nI t)), some (vI (leastS (habs σ h) (-6 : Int32)))]) (st' := [vI (leastS (habs σ h) (-6 : Int32)), vI (1 : Int32), vI (nI t), vR (0, 2, h)]) (σ' := σ) fl1_ok [(41, .istore_n 2), (42, .aload_n 0), (43, .getfield 23), (46, .iload_n 1), (47, .iconst 1), (48, .iload_n 2)] (by decide +kernel) rfl rfl ?_
        refine g_callV (0, 2, h) [vI (nI t), vI (1 : Int32), vI (leastS (habs σ h) (-6 : Int32))] [] vl_RX1_36 mi_X3_write (ct_write l hH 2 (by decide) (nI t) (1 : Int32) (leastS (habs σ h) (-6 : Int32))) rfl rfl rfl rfl ⟨Nat.le_of_ble_eq_true rfl, Nat.le_of_ble_eq_true rfl⟩ rfl (Nat.le_of_ble_eq_true rfl) (by decide +kernel) (fun o σ1 hPσ1 => ?_)
        obtain ⟨rfl, hWσ1⟩ := hPσ1
        refine g_blk (pc' := 65) (loc' := [some (vR (2, 0, h)), some (vI (nI t)), some (vI (leastS (habs σ h) (-6 : Int32)))]) (st' := [vI (2 : Int32), vI (nI t), vR (0, 2, h), vI (6 : Int32), vI (leastS (habs σ h) (-6 : Int32)), vR (0, 0, h)]) (σ' := σ1) fl1_ok [(52, .aload_n 0), (53, .getfield 16), (56, .iload_n 2), (57, .bipush 6), (59, .aload_n 0), (60, .getfield 23), (63, .iload_n 1), (64, .iconst 2)] (by decide +kernel) rfl rfl ?_
        refine g_callVp (0, 2, h) [vI (nI t), vI (2 : Int32)] [vI (6 : Int32), vI (leastS (habs σ h) (-6 : Int32)), vR (0, 0, h)] vl_RX1_58 mi_X3_cell (ct_cell l hWσ1.2.1 2 (by decide) (nI t) (2 : Int32)) rfl rfl rfl rfl ⟨Nat.le_of_ble_eq_true rfl, Nat.le_of_ble_eq_true rfl⟩ rfl (Nat.le_of_ble_eq_true rfl) (by decide +kernel) ?_
        refine g_callV (0, 0, h) [vI (leastS (habs σ h) (-6 : Int32)), vI (6 : Int32), vI (cl (habs σ1 h) 2 (nI t) (2 : Int32))] [] vl_RX1_74 mi_X3_increase (ct_increase l hWσ1.2.1 0 (by decide) (leastS (habs σ h) (-6 : Int32)) (6 : Int32) (cl (habs σ1 h) 2 (nI t) (2 : Int32))) rfl rfl rfl rfl ⟨Nat.le_of_ble_eq_true rfl, Nat.le_of_ble_eq_true rfl⟩ rfl (Nat.le_of_ble_eq_true rfl) (by decide +kernel) (fun o σ2 hPσ2 => ?_)
        obtain ⟨rfl, hWσ2⟩ := hPσ2
        refine g_blk (pc' := 2) (loc' := [some (vR (2, 0, h)), some (vI ((nI t) + (1 : Int32))), some (vI (leastS (habs σ h) (-6 : Int32)))]) (st' := []) (σ' := σ2) fl1_ok [(71, .iinc 1 1), (74, .goto (-72))] (by decide +kernel) rfl rfl ?_
        rw [giveF, give1, if_pos zc19] at hd
        rw [nI_1]
        refine g_sub (loc' := [some (vR (2, 0, h)), some (vI (nI (t + 1))), none]) ⟨Or.inr rfl, Or.inr rfl, Or.inl rfl, trivial⟩ ?_
        exact ih (t + 1) σ2 hWσ2.2.1 (by rw [hWσ2.1, hWσ1.1]; show t + 1 + k = sz (habs σ h) 2; omega) (by rw [hWσ2.1, hWσ1.1]; exact hd) (hF.tr ((hWσ1.2.2).tr hWσ2.2.2))
      · refine g_blk (pc' := 30) (loc' := [some (vR (2, 0, h)), some (vI (nI t)), none]) (st' := [vI (1 : Int32), vI ((nI t) - (1 : Int32)), vR (0, 2, h), vR (2, 0, h)]) (σ' := σ) fl1_ok [(22, .aload_n 0), (23, .getfield 23), (26, .iload_n 1), (27, .iconst 1), (28, .isub), (29, .iconst 1)] (by decide +kernel) rfl rfl ?_
        refine g_callVp (0, 2, h) [vI ((nI t) - (1 : Int32)), vI (1 : Int32)] [vR (2, 0, h)] vl_RX1_58 mi_X3_cell (ct_cell l hH 2 (by decide) ((nI t) - (1 : Int32)) (1 : Int32)) rfl rfl rfl rfl ⟨Nat.le_of_ble_eq_true rfl, Nat.le_of_ble_eq_true rfl⟩ rfl (Nat.le_of_ble_eq_true rfl) (by decide +kernel) ?_
        refine g_blk (pc' := 38) (loc' := [some (vR (2, 0, h)), some (vI (nI t)), none]) (st' := [vI (cl (habs σ h) 2 ((nI t) - (1 : Int32)) (1 : Int32)), vR (2, 0, h)]) (σ' := σ) fl1_ok [(33, .goto 5)] (by decide +kernel) rfl rfl ?_
        refine g_callVp (2, 0, h) [vI (cl (habs σ h) 2 ((nI t) - (1 : Int32)) (1 : Int32))] [] vl_RX1_77 mi_X1_leastLoaded (c_X1_leastLoaded l hH (cl (habs σ h) 2 ((nI t) - (1 : Int32)) (1 : Int32))) rfl rfl rfl rfl ⟨Nat.le_of_ble_eq_true rfl, Nat.le_of_ble_eq_true rfl⟩ rfl (Nat.le_of_ble_eq_true rfl) (by decide +kernel) ?_
        refine g_blk (pc' := 49) (loc' := [some (vR (2, 0, h)), some (vI (nI t)), some (vI (leastS (habs σ h) (cl (habs σ h) 2 ((nI t) - (1 : Int32)) (1 : Int32))))]) (st' := [vI (leastS (habs σ h) (cl (habs σ h) 2 ((nI t) - (1 : Int32)) (1 : Int32))), vI (1 : Int32), vI (nI t), vR (0, 2, h)]) (σ' := σ) fl1_ok [(41, .istore_n 2), (42, .aload_n 0), (43, .getfield 23), (46, .iload_n 1), (47, .iconst 1), (48, .iload_n 2)] (by decide +kernel) rfl rfl ?_
        refine g_callV (0, 2, h) [vI (nI t), vI (1 : Int32), vI (leastS (habs σ h) (cl (habs σ h) 2 ((nI t) - (1 : Int32)) (1 : Int32)))] [] vl_RX1_36 mi_X3_write (ct_write l hH 2 (by decide) (nI t) (1 : Int32) (leastS (habs σ h) (cl (habs σ h) 2 ((nI t) - (1 : Int32)) (1 : Int32)))) rfl rfl rfl rfl ⟨Nat.le_of_ble_eq_true rfl, Nat.le_of_ble_eq_true rfl⟩ rfl (Nat.le_of_ble_eq_true rfl) (by decide +kernel) (fun o σ3 hPσ3 => ?_)
        obtain ⟨rfl, hWσ3⟩ := hPσ3
        refine g_blk (pc' := 65) (loc' := [some (vR (2, 0, h)), some (vI (nI t)), some (vI (leastS (habs σ h) (cl (habs σ h) 2 ((nI t) - (1 : Int32)) (1 : Int32))))]) (st' := [vI (2 : Int32), vI (nI t), vR (0, 2, h), vI (6 : Int32), vI (leastS (habs σ h) (cl (habs σ h) 2 ((nI t) - (1 : Int32)) (1 : Int32))), vR (0, 0, h)]) (σ' := σ3) fl1_ok [(52, .aload_n 0), (53, .getfield 16), (56, .iload_n 2), (57, .bipush 6), (59, .aload_n 0), (60, .getfield 23), (63, .iload_n 1), (64, .iconst 2)] (by decide +kernel) rfl rfl ?_
        refine g_callVp (0, 2, h) [vI (nI t), vI (2 : Int32)] [vI (6 : Int32), vI (leastS (habs σ h) (cl (habs σ h) 2 ((nI t) - (1 : Int32)) (1 : Int32))), vR (0, 0, h)] vl_RX1_58 mi_X3_cell (ct_cell l hWσ3.2.1 2 (by decide) (nI t) (2 : Int32)) rfl rfl rfl rfl ⟨Nat.le_of_ble_eq_true rfl, Nat.le_of_ble_eq_true rfl⟩ rfl (Nat.le_of_ble_eq_true rfl) (by decide +kernel) ?_
        refine g_callV (0, 0, h) [vI (leastS (habs σ h) (cl (habs σ h) 2 ((nI t) - (1 : Int32)) (1 : Int32))), vI (6 : Int32), vI (cl (habs σ3 h) 2 (nI t) (2 : Int32))] [] vl_RX1_74 mi_X3_increase (ct_increase l hWσ3.2.1 0 (by decide) (leastS (habs σ h) (cl (habs σ h) 2 ((nI t) - (1 : Int32)) (1 : Int32))) (6 : Int32) (cl (habs σ3 h) 2 (nI t) (2 : Int32))) rfl rfl rfl rfl ⟨Nat.le_of_ble_eq_true rfl, Nat.le_of_ble_eq_true rfl⟩ rfl (Nat.le_of_ble_eq_true rfl) (by decide +kernel) (fun o σ4 hPσ4 => ?_)
        obtain ⟨rfl, hWσ4⟩ := hPσ4
        refine g_blk (pc' := 2) (loc' := [some (vR (2, 0, h)), some (vI ((nI t) + (1 : Int32))), some (vI (leastS (habs σ h) (cl (habs σ h) 2 ((nI t) - (1 : Int32)) (1 : Int32))))]) (st' := []) (σ' := σ4) fl1_ok [(71, .iinc 1 1), (74, .goto (-72))] (by decide +kernel) rfl rfl ?_
        rw [giveF, give1, if_neg zc19] at hd
        rw [nI_1]
        refine g_sub (loc' := [some (vR (2, 0, h)), some (vI (nI (t + 1))), none]) ⟨Or.inr rfl, Or.inr rfl, Or.inl rfl, trivial⟩ ?_
        exact ih (t + 1) σ4 hWσ4.2.1 (by rw [hWσ4.1, hWσ3.1]; show t + 1 + k = sz (habs σ h) 2; omega) (by rw [hWσ4.1, hWσ3.1]; exact hd) (hF.tr ((hWσ3.2.2).tr hWσ4.2.2))
set_option maxHeartbeats 2000000 in
theorem c_X1_giveTasks (l : Launch) {σ : Sg} {h : Nat} (hH : HOK σ h) : Con l 4 yX1_giveTasks cX1_giveTasks 3 none [vR (2, 0, h)] σ (fun o σ' => o = none ∧ HW h (giveF (sz (habs σ h) 2) 0 (habs σ h)) σ σ') := by
  refine con_of pn_X1_giveTasks (Nat.le_of_ble_eq_true rfl) (fun hPK hok => ?_)
  show G l (Rm 4) RX1 cX1_giveTasks 3 none _ 0 [some (vR (2, 0, h)), none, none] [] σ
  refine g_blk (pc' := 2) (loc' := [some (vR (2, 0, h)), some (vI (0 : Int32)), none]) (st' := []) (σ' := σ) fl1_ok [(0, .iconst 0), (1, .istore_n 1)] (by decide +kernel) rfl rfl ?_
  exact lp_X1_giveF l (sz (habs σ h) 2) 0 σ hH (by omega) rfl FrH.rf
set_option maxHeartbeats 2000000 in
theorem lp_X1_mkS (l : Launch) {σ0 : Sg} {h : Nat} {Sf : HA} : ∀ (k i : Nat) (f : Int32) (σ : Sg), HOK σ h → i + k = sz (habs σ h) 1 → sz (habs σ h) 2 ≤ 2 * i → mkS k (habs σ h) f = Sf → FrH h σ0 σ → G l (Rm 4) RX1 cX1_makeTasks 6 none (fun o σ' => o = none ∧ HW h Sf σ0 σ') 4 [some (vR (2, 0, h)), some (vI f), some (vI (nI i)), none, none, none] [] σ := by
  intro k
  induction k with
  | zero =>
    intro i f σ hH hk h2 hd hF
    refine g_blk (pc' := 9) (loc' := [some (vR (2, 0, h)), some (vI f), some (vI (nI i)), none, none, none]) (st' := [vR (0, 1, h), vI (nI i)]) (σ' := σ) fl1_ok [(4, .iload_n 2), (5, .aload_n 0), (6, .getfield 20)] (by decide +kernel) rfl rfl ?_
    refine g_callVp (0, 1, h) [] [vI (nI i)] vl_RX1_66 mi_X3_size (ct_size l hH 1 (by decide)) rfl rfl rfl rfl ⟨Nat.le_of_ble_eq_true rfl, Nat.le_of_ble_eq_true rfl⟩ rfl (Nat.le_of_ble_eq_true rfl) (by decide +kernel) ?_
    refine g_icmp_ge (off := 65) (tgt := 77) (by decide +kernel) (by decide) (fun zc12 => ?_) (fun zc12 => ?_)
    · have hm : sz (habs σ h) 1 ≤ 6 := ha_N hH 1 (by decide)
      rw [nI_leI (by omega) (by omega)] at zc12
      exact g_vret (by decide +kernel) ⟨rfl, ⟨hd, hH, hF⟩⟩
    · have hm : sz (habs σ h) 1 ≤ 6 := ha_N hH 1 (by decide)
      rw [nI_leI (by omega) (by omega)] at zc12
      exact absurd (by omega) zc12
  | succ k ih =>
    intro i f σ hH hk h2 hd hF
    refine g_blk (pc' := 9) (loc' := [some (vR (2, 0, h)), some (vI f), some (vI (nI i)), none, none, none]) (st' := [vR (0, 1, h), vI (nI i)]) (σ' := σ) fl1_ok [(4, .iload_n 2), (5, .aload_n 0), (6, .getfield 20)] (by decide +kernel) rfl rfl ?_
    refine g_callVp (0, 1, h) [] [vI (nI i)] vl_RX1_66 mi_X3_size (ct_size l hH 1 (by decide)) rfl rfl rfl rfl ⟨Nat.le_of_ble_eq_true rfl, Nat.le_of_ble_eq_true rfl⟩ rfl (Nat.le_of_ble_eq_true rfl) (by decide +kernel) ?_
    refine g_icmp_ge (off := 65) (tgt := 77) (by decide +kernel) (by decide) (fun zc12 => ?_) (fun zc12 => ?_)
    · have hm : sz (habs σ h) 1 ≤ 6 := ha_N hH 1 (by decide)
      rw [nI_leI (by omega) (by omega)] at zc12
      exact absurd zc12 (by omega)
    · have hm : sz (habs σ h) 1 ≤ 6 := ha_N hH 1 (by decide)
      rw [nI_leI (by omega) (by omega)] at zc12
      refine g_blk (pc' := 17) (loc' := [some (vR (2, 0, h)), some (vI f), some (vI (nI i)), none, none, none]) (st' := [vI f, vR (2, 0, h)]) (σ' := σ) fl1_ok [(15, .aload_n 0), (16, .iload_n 1)] (by decide +kernel) rfl rfl ?_
      refine g_callVp (2, 0, h) [vI f] [] vl_RX1_87 mi_X1_areaOfNextTask (c_X1_areaOfNextTask l hH f) rfl rfl rfl rfl ⟨Nat.le_of_ble_eq_true rfl, Nat.le_of_ble_eq_true rfl⟩ rfl (Nat.le_of_ble_eq_true rfl) (by decide +kernel) ?_
      refine g_blk (pc' := 24) (loc' := [some (vR (2, 0, h)), some (vI f), some (vI (nI i)), some (vI (nextS (habs σ h) f)), none, none]) (st' := [vI (-6 : Int32), vI (nextS (habs σ h) f)]) (σ' := σ) fl1_ok [(20, .istore_n 3), (21, .iload_n 3), (22, .bipush (-6))] (by decide +kernel) rfl rfl ?_
      refine g_icmp_ne (off := 4) (tgt := 28) (by decide +kernel) (by decide) (fun zc24 => ?_) (fun zc24 => ?_)
      · refine g_blk (pc' := 36) (loc' := [some (vR (2, 0, h)), some (vI (f ||| ((1 : Int32) <<< ((nextS (habs σ h) f) &&& 31)))), some (vI (nI i)), some (vI (nextS (habs σ h) f)), none, none]) (st' := [vI (nextS (habs σ h) f), vR (2, 0, h)]) (σ' := σ) fl1_ok [(28, .iload_n 1), (29, .iconst 1), (30, .iload_n 3), (31, .ishl), (32, .ior), (33, .istore_n 1), (34, .aload_n 0), (35, .iload_n 3)] (by decide +kernel) rfl rfl ?_
        refine g_callVp (2, 0, h) [vI (nextS (habs σ h) f)] [] vl_RX1_90 mi_X1_effortOfTask (c_X1_effortOfTask l hH (nextS (habs σ h) f)) rfl rfl rfl rfl ⟨Nat.le_of_ble_eq_true rfl, Nat.le_of_ble_eq_true rfl⟩ rfl (Nat.le_of_ble_eq_true rfl) (by decide +kernel) ?_
        refine g_blk (pc' := 43) (loc' := [some (vR (2, 0, h)), some (vI (f ||| ((1 : Int32) <<< ((nextS (habs σ h) f) &&& 31)))), some (vI (nI i)), some (vI (nextS (habs σ h) f)), some (vI (effS (habs σ h) (nextS (habs σ h) f))), none]) (st' := [vI (nextS (habs σ h) f), vR (2, 0, h)]) (σ' := σ) fl1_ok [(39, .istore 4), (41, .aload_n 0), (42, .iload_n 3)] (by decide +kernel) rfl rfl ?_
        refine g_callVp (2, 0, h) [vI (nextS (habs σ h) f)] [] vl_RX1_93 mi_X1_needsDeepClean (c_X1_needsDeepClean l hH (nextS (habs σ h) f)) rfl rfl rfl rfl ⟨Nat.le_of_ble_eq_true rfl, Nat.le_of_ble_eq_true rfl⟩ rfl (Nat.le_of_ble_eq_true rfl) (by decide +kernel) ?_
        refine g_blk (pc' := 54) (loc' := [some (vR (2, 0, h)), some (vI (f ||| ((1 : Int32) <<< ((nextS (habs σ h) f) &&& 31)))), some (vI (nI i)), some (vI (nextS (habs σ h) f)), some (vI (effS (habs σ h) (nextS (habs σ h) f))), some (vI (deepS (habs σ h) (nextS (habs σ h) f)))]) (st' := [vI (deepS (habs σ h) (nextS (habs σ h) f)), vI (effS (habs σ h) (nextS (habs σ h) f)), vI (nextS (habs σ h) f), vR (2, 0, h)]) (σ' := σ) fl1_ok [(46, .istore 5), (48, .aload_n 0), (49, .iload_n 3), (50, .iload 4), (52, .iload 5)] (by decide +kernel) rfl rfl ?_
        refine g_callV (2, 0, h) [vI (nextS (habs σ h) f), vI (effS (habs σ h) (nextS (habs σ h) f)), vI (deepS (habs σ h) (nextS (habs σ h) f))] [] vl_RX1_97 mi_X1_addTask (c_X1_addTask l (nextS (habs σ h) f) (effS (habs σ h) (nextS (habs σ h) f)) (deepS (habs σ h) (nextS (habs σ h) f)) hH (by show sz (habs σ h) 2 + 0 < 12; omega)) rfl rfl rfl rfl ⟨Nat.le_of_ble_eq_true rfl, Nat.le_of_ble_eq_true rfl⟩ rfl (Nat.le_of_ble_eq_true rfl) (by decide +kernel) (fun o σ1 hPσ1 => ?_)
        obtain ⟨rfl, hWσ1⟩ := hPσ1
        refine g_blk (pc' := 59) (loc' := [some (vR (2, 0, h)), some (vI (f ||| ((1 : Int32) <<< ((nextS (habs σ h) f) &&& 31)))), some (vI (nI i)), some (vI (nextS (habs σ h) f)), some (vI (effS (habs σ h) (nextS (habs σ h) f))), some (vI (deepS (habs σ h) (nextS (habs σ h) f)))]) (st' := [vI (deepS (habs σ h) (nextS (habs σ h) f))]) (σ' := σ1) fl1_ok [(57, .iload 5)] (by decide +kernel) rfl rfl ?_
        refine g_if_eq (off := 12) (tgt := 71) (by decide +kernel) (by decide) (fun zc59 => ?_) (fun zc59 => ?_)
        · refine g_blk (pc' := 4) (loc' := [some (vR (2, 0, h)), some (vI (f ||| ((1 : Int32) <<< ((nextS (habs σ h) f) &&& 31)))), some (vI ((nI i) + (1 : Int32))), some (vI (nextS (habs σ h) f)), some (vI (effS (habs σ h) (nextS (habs σ h) f))), some (vI (deepS (habs σ h) (nextS (habs σ h) f)))]) (st' := []) (σ' := σ1) fl1_ok [(71, .iinc 2 1), (74, .goto (-70))] (by decide +kernel) rfl rfl ?_
          rw [mkS, if_neg zc24] at hd
          simp only at hd
          rw [if_pos zc59] at hd
          rw [nI_1]
          refine g_sub (loc' := [some (vR (2, 0, h)), some (vI (f ||| ((1 : Int32) <<< ((nextS (habs σ h) f) &&& 31)))), some (vI (nI (i + 1))), none, none, none]) ⟨Or.inr rfl, Or.inr rfl, Or.inr rfl, Or.inl rfl, Or.inl rfl, Or.inl rfl, trivial⟩ ?_
          exact ih (i + 1) _ σ1 hWσ1.2.1 (by rw [hWσ1.1]; show i + 1 + k = sz (habs σ h) 1; omega) (by rw [hWσ1.1]; show sz (habs σ h) 2 + 1 ≤ 2 * (i + 1); omega) (by rw [hWσ1.1]; exact hd) (hF.tr (hWσ1.2.2))
        · refine g_blk (pc' := 68) (loc' := [some (vR (2, 0, h)), some (vI (f ||| ((1 : Int32) <<< ((nextS (habs σ h) f) &&& 31)))), some (vI (nI i)), some (vI (nextS (habs σ h) f)), some (vI (effS (habs σ h) (nextS (habs σ h) f))), some (vI (deepS (habs σ h) (nextS (habs σ h) f)))]) (st' := [vI (deepS (habs σ h) (nextS (habs σ h) f)), vI (effS (habs σ h) (nextS (habs σ h) f)), vI (nextS (habs σ h) f), vR (2, 0, h)]) (σ' := σ1) fl1_ok [(62, .aload_n 0), (63, .iload_n 3), (64, .iload 4), (66, .iload 5)] (by decide +kernel) rfl rfl ?_
          refine g_callV (2, 0, h) [vI (nextS (habs σ h) f), vI (effS (habs σ h) (nextS (habs σ h) f)), vI (deepS (habs σ h) (nextS (habs σ h) f))] [] vl_RX1_97 mi_X1_addTask (c_X1_addTask l (nextS (habs σ h) f) (effS (habs σ h) (nextS (habs σ h) f)) (deepS (habs σ h) (nextS (habs σ h) f)) hWσ1.2.1 (by rw [hWσ1.1]; show sz (habs σ h) 2 + 1 < 12; omega)) rfl rfl rfl rfl ⟨Nat.le_of_ble_eq_true rfl, Nat.le_of_ble_eq_true rfl⟩ rfl (Nat.le_of_ble_eq_true rfl) (by decide +kernel) (fun o σ2 hPσ2 => ?_)
          obtain ⟨rfl, hWσ2⟩ := hPσ2
          refine g_blk (pc' := 4) (loc' := [some (vR (2, 0, h)), some (vI (f ||| ((1 : Int32) <<< ((nextS (habs σ h) f) &&& 31)))), some (vI ((nI i) + (1 : Int32))), some (vI (nextS (habs σ h) f)), some (vI (effS (habs σ h) (nextS (habs σ h) f))), some (vI (deepS (habs σ h) (nextS (habs σ h) f)))]) (st' := []) (σ' := σ2) fl1_ok [(71, .iinc 2 1), (74, .goto (-70))] (by decide +kernel) rfl rfl ?_
          rw [mkS, if_neg zc24] at hd
          simp only at hd
          rw [if_neg zc59] at hd
          rw [nI_1]
          refine g_sub (loc' := [some (vR (2, 0, h)), some (vI (f ||| ((1 : Int32) <<< ((nextS (habs σ h) f) &&& 31)))), some (vI (nI (i + 1))), none, none, none]) ⟨Or.inr rfl, Or.inr rfl, Or.inr rfl, Or.inl rfl, Or.inl rfl, Or.inl rfl, trivial⟩ ?_
          exact ih (i + 1) _ σ2 hWσ2.2.1 (by rw [hWσ2.1, hWσ1.1]; show i + 1 + k = sz (habs σ h) 1; omega) (by rw [hWσ2.1, hWσ1.1]; show sz (habs σ h) 2 + 2 ≤ 2 * (i + 1); omega) (by rw [hWσ2.1, hWσ1.1]; exact hd) (hF.tr ((hWσ1.2.2).tr hWσ2.2.2))
      · rw [mkS, if_pos zc24] at hd
        exact g_vret (by decide +kernel) ⟨rfl, ⟨hd, hH, hF⟩⟩
set_option maxHeartbeats 2000000 in
theorem c_X1_makeTasks (l : Launch) {σ : Sg} {h : Nat} (hH : HOK σ h) (h0 : sz (habs σ h) 2 = 0) : Con l 4 yX1_makeTasks cX1_makeTasks 6 none [vR (2, 0, h)] σ (fun o σ' => o = none ∧ HW h (mkS (sz (habs σ h) 1) (habs σ h) 0) σ σ') := by
  refine con_of pn_X1_makeTasks (Nat.le_of_ble_eq_true rfl) (fun hPK hok => ?_)
  show G l (Rm 4) RX1 cX1_makeTasks 6 none _ 0 [some (vR (2, 0, h)), none, none, none, none, none] [] σ
  refine g_blk (pc' := 4) (loc' := [some (vR (2, 0, h)), some (vI (0 : Int32)), some (vI (0 : Int32)), none, none, none]) (st' := []) (σ' := σ) fl1_ok [(0, .iconst 0), (1, .istore_n 1), (2, .iconst 0), (3, .istore_n 2)] (by decide +kernel) rfl rfl ?_
  exact lp_X1_mkS l (sz (habs σ h) 1) 0 0 σ hH (by omega) (by omega) rfl FrH.rf
set_option maxHeartbeats 2000000 in
theorem lp_X1_decayPoints (l : Launch) {σ0 : Sg} {h : Nat} {Sf : HA} (d : Int32) : ∀ (k i : Nat) (σ : Sg), HOK σ h → i + k = sz (habs σ h) 0 → decayF d k i (habs σ h) = Sf → FrH h σ0 σ → G l (Rm 1) RX1 cX1_decayPoints 3 none (fun o σ' => o = none ∧ HW h Sf σ0 σ') 15 [some (vR (2, 0, h)), some (vI d), some (vI (nI i))] [] σ := by
  intro k
  induction k with
  | zero =>
    intro i σ hH hk hd hF
    refine g_blk (pc' := 20) (loc' := [some (vR (2, 0, h)), some (vI d), some (vI (nI i))]) (st' := [vR (0, 0, h), vI (nI i)]) (σ' := σ) fl1_ok [(15, .iload_n 2), (16, .aload_n 0), (17, .getfield 16)] (by decide +kernel) rfl rfl ?_
    refine g_callVp (0, 0, h) [] [vI (nI i)] vl_RX1_66 mi_X3_size (ct_size l hH 0 (by decide)) rfl rfl rfl rfl ⟨Nat.le_of_ble_eq_true rfl, Nat.le_of_ble_eq_true rfl⟩ rfl (Nat.le_of_ble_eq_true rfl) (by decide +kernel) ?_
    refine g_icmp_ge (off := 32) (tgt := 55) (by decide +kernel) (by decide) (fun zc23 => ?_) (fun zc23 => ?_)
    · have hm : sz (habs σ h) 0 ≤ 8 := Nat.le_trans (ha_N hH 0 (by decide)) (by decide : mst 0 ≤ 8)
      rw [nI_leI (by omega) (by omega)] at zc23
      exact g_vret (by decide +kernel) ⟨rfl, ⟨hd, hH, hF⟩⟩
    · have hm : sz (habs σ h) 0 ≤ 8 := Nat.le_trans (ha_N hH 0 (by decide)) (by decide : mst 0 ≤ 8)
      rw [nI_leI (by omega) (by omega)] at zc23
      exact absurd (by omega) zc23
  | succ k ih =>
    intro i σ hH hk hd hF
    refine g_blk (pc' := 20) (loc' := [some (vR (2, 0, h)), some (vI d), some (vI (nI i))]) (st' := [vR (0, 0, h), vI (nI i)]) (σ' := σ) fl1_ok [(15, .iload_n 2), (16, .aload_n 0), (17, .getfield 16)] (by decide +kernel) rfl rfl ?_
    refine g_callVp (0, 0, h) [] [vI (nI i)] vl_RX1_66 mi_X3_size (ct_size l hH 0 (by decide)) rfl rfl rfl rfl ⟨Nat.le_of_ble_eq_true rfl, Nat.le_of_ble_eq_true rfl⟩ rfl (Nat.le_of_ble_eq_true rfl) (by decide +kernel) ?_
    refine g_icmp_ge (off := 32) (tgt := 55) (by decide +kernel) (by decide) (fun zc23 => ?_) (fun zc23 => ?_)
    · have hm : sz (habs σ h) 0 ≤ 8 := Nat.le_trans (ha_N hH 0 (by decide)) (by decide : mst 0 ≤ 8)
      rw [nI_leI (by omega) (by omega)] at zc23
      exact absurd zc23 (by omega)
    · have hm : sz (habs σ h) 0 ≤ 8 := Nat.le_trans (ha_N hH 0 (by decide)) (by decide : mst 0 ≤ 8)
      rw [nI_leI (by omega) (by omega)] at zc23
      refine g_blk (pc' := 38) (loc' := [some (vR (2, 0, h)), some (vI d), some (vI (nI i))]) (st' := [vI (5 : Int32), vI (nI i), vR (0, 0, h), vI (5 : Int32), vI (nI i), vR (0, 0, h)]) (σ' := σ) fl1_ok [(26, .aload_n 0), (27, .getfield 16), (30, .iload_n 2), (31, .iconst 5), (32, .aload_n 0), (33, .getfield 16), (36, .iload_n 2), (37, .iconst 5)] (by decide +kernel) rfl rfl ?_
      refine g_callVp (0, 0, h) [vI (nI i), vI (5 : Int32)] [vI (5 : Int32), vI (nI i), vR (0, 0, h)] vl_RX1_58 mi_X3_cell (ct_cell l hH 0 (by decide) (nI i) (5 : Int32)) rfl rfl rfl rfl ⟨Nat.le_of_ble_eq_true rfl, Nat.le_of_ble_eq_true rfl⟩ rfl (Nat.le_of_ble_eq_true rfl) (by decide +kernel) ?_
      refine g_blk (pc' := 45) (loc' := [some (vR (2, 0, h)), some (vI d), some (vI (nI i))]) (st' := [vI (100 : Int32), vI ((cl (habs σ h) 0 (nI i) (5 : Int32)) * d), vI (5 : Int32), vI (nI i), vR (0, 0, h)]) (σ' := σ) fl1_ok [(41, .iload_n 1), (42, .imul), (43, .bipush 100)] (by decide +kernel) rfl rfl ?_
      refine g_idiv (hy := by decide) (hd := by decide +kernel) (k := ?_)
      refine g_callV (0, 0, h) [vI (nI i), vI (5 : Int32), vI (((cl (habs σ h) 0 (nI i) (5 : Int32)) * d) / (100 : Int32))] [] vl_RX1_36 mi_X3_write (ct_write l hH 0 (by decide) (nI i) (5 : Int32) (((cl (habs σ h) 0 (nI i) (5 : Int32)) * d) / (100 : Int32))) rfl rfl rfl rfl ⟨Nat.le_of_ble_eq_true rfl, Nat.le_of_ble_eq_true rfl⟩ rfl (Nat.le_of_ble_eq_true rfl) (by decide +kernel) (fun o σ1 hPσ1 => ?_)
      obtain ⟨rfl, hWσ1⟩ := hPσ1
      refine g_blk (pc' := 15) (loc' := [some (vR (2, 0, h)), some (vI d), some (vI ((nI i) + (1 : Int32)))]) (st' := []) (σ' := σ1) fl1_ok [(49, .iinc 2 1), (52, .goto (-37))] (by decide +kernel) rfl rfl ?_
      rw [nI_1]
      refine g_sub (loc' := [some (vR (2, 0, h)), some (vI d), some (vI (nI (i + 1)))]) ⟨Or.inr rfl, ⟨Or.inr rfl, ⟨Or.inr rfl, trivial⟩⟩⟩ ?_
      exact ih (i + 1) σ1 hWσ1.2.1 (by rw [hWσ1.1]; show i + 1 + k = sz (habs σ h) 0; omega) (by rw [hWσ1.1]; exact hd) (hF.tr (hWσ1.2.2))
set_option maxHeartbeats 2000000 in
theorem c_X1_decayPoints (l : Launch) {σ : Sg} {h : Nat} (hH : HOK σ h) : Con l 1 yX1_decayPoints cX1_decayPoints 3 none [vR (2, 0, h)] σ (fun o σ' => o = none ∧ HW h (decayF (100 - cl (habs σ h) 4 0 1) (sz (habs σ h) 0) 0 (habs σ h)) σ σ') := by
  refine con_of pn_X1_decayPoints (Nat.le_of_ble_eq_true rfl) (fun hPK hok => ?_)
  show G l (Rm 1) RX1 cX1_decayPoints 3 none _ 0 [some (vR (2, 0, h)), none, none] [] σ
  refine g_blk (pc' := 8) (loc' := [some (vR (2, 0, h)), none, none]) (st' := [vI (1 : Int32), vI (0 : Int32), vR (0, 4, h), vI (100 : Int32)]) (σ' := σ) fl1_ok [(0, .bipush 100), (2, .aload_n 0), (3, .getfield 29), (6, .iconst 0), (7, .iconst 1)] (by decide +kernel) rfl rfl ?_
  refine g_callVp (0, 4, h) [vI (0 : Int32), vI (1 : Int32)] [vI (100 : Int32)] vl_RX1_58 mi_X3_cell (ct_cell l hH 4 (by decide) (0 : Int32) (1 : Int32)) rfl rfl rfl rfl ⟨Nat.le_of_ble_eq_true rfl, Nat.le_of_ble_eq_true rfl⟩ rfl (Nat.le_of_ble_eq_true rfl) (by decide +kernel) ?_
  refine g_blk (pc' := 15) (loc' := [some (vR (2, 0, h)), some (vI ((100 : Int32) - (cl (habs σ h) 4 (0 : Int32) (1 : Int32)))), some (vI (0 : Int32))]) (st' := []) (σ' := σ) fl1_ok [(11, .isub), (12, .istore_n 1), (13, .iconst 0), (14, .istore_n 2)] (by decide +kernel) rfl rfl ?_
  exact lp_X1_decayPoints l (100 - cl (habs σ h) 4 0 1) (sz (habs σ h) 0) 0 σ hH (by omega) rfl FrH.rf
set_option maxHeartbeats 2000000 in
theorem lp_X1_growDirt (l : Launch) {σ0 : Sg} {h : Nat} {Sf : HA} : ∀ (k i : Nat) (σ : Sg), HOK σ h → i + k = sz (habs σ h) 1 → growF k i (habs σ h) = Sf → FrH h σ0 σ → G l (Rm 1) RX1 cX1_growDirt 3 none (fun o σ' => o = none ∧ HW h Sf σ0 σ') 2 [some (vR (2, 0, h)), some (vI (nI i)), none] [] σ := by
  intro k
  induction k with
  | zero =>
    intro i σ hH hk hd hF
    refine g_blk (pc' := 7) (loc' := [some (vR (2, 0, h)), some (vI (nI i)), none]) (st' := [vR (0, 1, h), vI (nI i)]) (σ' := σ) fl1_ok [(2, .iload_n 1), (3, .aload_n 0), (4, .getfield 20)] (by decide +kernel) rfl rfl ?_
    refine g_callVp (0, 1, h) [] [vI (nI i)] vl_RX1_66 mi_X3_size (ct_size l hH 1 (by decide)) rfl rfl rfl rfl ⟨Nat.le_of_ble_eq_true rfl, Nat.le_of_ble_eq_true rfl⟩ rfl (Nat.le_of_ble_eq_true rfl) (by decide +kernel) ?_
    refine g_icmp_ge (off := 45) (tgt := 55) (by decide +kernel) (by decide) (fun zc10 => ?_) (fun zc10 => ?_)
    · have hm : sz (habs σ h) 1 ≤ 8 := Nat.le_trans (ha_N hH 1 (by decide)) (by decide : mst 1 ≤ 8)
      rw [nI_leI (by omega) (by omega)] at zc10
      exact g_vret (by decide +kernel) ⟨rfl, ⟨hd, hH, hF⟩⟩
    · have hm : sz (habs σ h) 1 ≤ 8 := Nat.le_trans (ha_N hH 1 (by decide)) (by decide : mst 1 ≤ 8)
      rw [nI_leI (by omega) (by omega)] at zc10
      exact absurd (by omega) zc10
  | succ k ih =>
    intro i σ hH hk hd hF
    refine g_blk (pc' := 7) (loc' := [some (vR (2, 0, h)), some (vI (nI i)), none]) (st' := [vR (0, 1, h), vI (nI i)]) (σ' := σ) fl1_ok [(2, .iload_n 1), (3, .aload_n 0), (4, .getfield 20)] (by decide +kernel) rfl rfl ?_
    refine g_callVp (0, 1, h) [] [vI (nI i)] vl_RX1_66 mi_X3_size (ct_size l hH 1 (by decide)) rfl rfl rfl rfl ⟨Nat.le_of_ble_eq_true rfl, Nat.le_of_ble_eq_true rfl⟩ rfl (Nat.le_of_ble_eq_true rfl) (by decide +kernel) ?_
    refine g_icmp_ge (off := 45) (tgt := 55) (by decide +kernel) (by decide) (fun zc10 => ?_) (fun zc10 => ?_)
    · have hm : sz (habs σ h) 1 ≤ 8 := Nat.le_trans (ha_N hH 1 (by decide)) (by decide : mst 1 ≤ 8)
      rw [nI_leI (by omega) (by omega)] at zc10
      exact absurd zc10 (by omega)
    · have hm : sz (habs σ h) 1 ≤ 8 := Nat.le_trans (ha_N hH 1 (by decide)) (by decide : mst 1 ≤ 8)
      rw [nI_leI (by omega) (by omega)] at zc10
      refine g_blk (pc' := 19) (loc' := [some (vR (2, 0, h)), some (vI (nI i)), none]) (st' := [vI (3 : Int32), vI (nI i), vR (0, 1, h)]) (σ' := σ) fl1_ok [(13, .aload_n 0), (14, .getfield 20), (17, .iload_n 1), (18, .iconst 3)] (by decide +kernel) rfl rfl ?_
      refine g_callVp (0, 1, h) [vI (nI i), vI (3 : Int32)] [] vl_RX1_58 mi_X3_cell (ct_cell l hH 1 (by decide) (nI i) (3 : Int32)) rfl rfl rfl rfl ⟨Nat.le_of_ble_eq_true rfl, Nat.le_of_ble_eq_true rfl⟩ rfl (Nat.le_of_ble_eq_true rfl) (by decide +kernel) ?_
      refine g_blk (pc' := 28) (loc' := [some (vR (2, 0, h)), some (vI (nI i)), none]) (st' := [vI (2 : Int32), vI (nI i), vR (0, 1, h), vI (cl (habs σ h) 1 (nI i) (3 : Int32))]) (σ' := σ) fl1_ok [(22, .aload_n 0), (23, .getfield 20), (26, .iload_n 1), (27, .iconst 2)] (by decide +kernel) rfl rfl ?_
      refine g_callVp (0, 1, h) [vI (nI i), vI (2 : Int32)] [vI (cl (habs σ h) 1 (nI i) (3 : Int32))] vl_RX1_58 mi_X3_cell (ct_cell l hH 1 (by decide) (nI i) (2 : Int32)) rfl rfl rfl rfl ⟨Nat.le_of_ble_eq_true rfl, Nat.le_of_ble_eq_true rfl⟩ rfl (Nat.le_of_ble_eq_true rfl) (by decide +kernel) ?_
      refine g_blk (pc' := 43) (loc' := [some (vR (2, 0, h)), some (vI (nI i)), some (vI ((cl (habs σ h) 1 (nI i) (3 : Int32)) + (cl (habs σ h) 1 (nI i) (2 : Int32))))]) (st' := [vI ((cl (habs σ h) 1 (nI i) (3 : Int32)) + (cl (habs σ h) 1 (nI i) (2 : Int32))), vI (1000 : Int32), vI (3 : Int32), vI (nI i), vR (0, 1, h)]) (σ' := σ) fl1_ok [(31, .iadd), (32, .istore_n 2), (33, .aload_n 0), (34, .getfield 20), (37, .iload_n 1), (38, .iconst 3), (39, .sipush 1000), (42, .iload_n 2)] (by decide +kernel) rfl rfl ?_
      refine g_min jl_RX1_146 ⟨Nat.le_of_ble_eq_true rfl, Nat.le_of_ble_eq_true rfl⟩ (by decide +kernel) ?_
      refine g_callV (0, 1, h) [vI (nI i), vI (3 : Int32), vI (if ((cl (habs σ h) 1 (nI i) (3 : Int32)) + (cl (habs σ h) 1 (nI i) (2 : Int32))) < (1000 : Int32) then ((cl (habs σ h) 1 (nI i) (3 : Int32)) + (cl (habs σ h) 1 (nI i) (2 : Int32))) else (1000 : Int32))] [] vl_RX1_36 mi_X3_write (ct_write l hH 1 (by decide) (nI i) (3 : Int32) (if ((cl (habs σ h) 1 (nI i) (3 : Int32)) + (cl (habs σ h) 1 (nI i) (2 : Int32))) < (1000 : Int32) then ((cl (habs σ h) 1 (nI i) (3 : Int32)) + (cl (habs σ h) 1 (nI i) (2 : Int32))) else (1000 : Int32))) rfl rfl rfl rfl ⟨Nat.le_of_ble_eq_true rfl, Nat.le_of_ble_eq_true rfl⟩ rfl (Nat.le_of_ble_eq_true rfl) (by decide +kernel) (fun o σ1 hPσ1 => ?_)
      obtain ⟨rfl, hWσ1⟩ := hPσ1
      refine g_blk (pc' := 2) (loc' := [some (vR (2, 0, h)), some (vI ((nI i) + (1 : Int32))), some (vI ((cl (habs σ h) 1 (nI i) (3 : Int32)) + (cl (habs σ h) 1 (nI i) (2 : Int32))))]) (st' := []) (σ' := σ1) fl1_ok [(49, .iinc 1 1), (52, .goto (-50))] (by decide +kernel) rfl rfl ?_
      rw [nI_1]
      refine g_sub (loc' := [some (vR (2, 0, h)), some (vI (nI (i + 1))), none]) ⟨Or.inr rfl, ⟨Or.inr rfl, ⟨Or.inl rfl, trivial⟩⟩⟩ ?_
      exact ih (i + 1) σ1 hWσ1.2.1 (by rw [hWσ1.1]; show i + 1 + k = sz (habs σ h) 1; omega) (by rw [hWσ1.1]; exact hd) (hF.tr (hWσ1.2.2))
set_option maxHeartbeats 2000000 in
theorem c_X1_growDirt (l : Launch) {σ : Sg} {h : Nat} (hH : HOK σ h) : Con l 1 yX1_growDirt cX1_growDirt 3 none [vR (2, 0, h)] σ (fun o σ' => o = none ∧ HW h (growF (sz (habs σ h) 1) 0 (habs σ h)) σ σ') := by
  refine con_of pn_X1_growDirt (Nat.le_of_ble_eq_true rfl) (fun hPK hok => ?_)
  show G l (Rm 1) RX1 cX1_growDirt 3 none _ 0 [some (vR (2, 0, h)), none, none] [] σ
  refine g_blk (pc' := 2) (loc' := [some (vR (2, 0, h)), some (vI (0 : Int32)), none]) (st' := []) (σ' := σ) fl1_ok [(0, .iconst 0), (1, .istore_n 1)] (by decide +kernel) rfl rfl ?_
  exact lp_X1_growDirt l (sz (habs σ h) 1) 0 σ hH (by omega) rfl FrH.rf
set_option maxHeartbeats 2000000 in
theorem c_X1_planWeek (l : Launch) {σ : Sg} {h : Nat} (hH : HOK σ h) (h0 : sz (habs σ h) 2 = 0) : Con l 5 yX1_planWeek cX1_planWeek 2 (some .int) [vR (2, 0, h)] σ (fun o σ' => o = some (vI (nI (sz (planS (habs σ h)) 2))) ∧ HW h (planS (habs σ h)) σ σ') := by
  refine con_of pn_X1_planWeek (Nat.le_of_ble_eq_true rfl) (fun hPK hok => ?_)
  show G l (Rm 5) RX1 cX1_planWeek 2 (some .int) _ 0 [some (vR (2, 0, h)), none] [] σ
  refine g_blk (pc' := 5) (loc' := [some (vR (2, 0, h)), none]) (st' := []) (σ' := (upd2 σ.1 (2, 0, h) 6 (1 : Int32), σ.2)) fl1_ok [(0, .aload_n 0), (1, .iconst 1), (2, .putfield 48)] (by decide +kernel) rfl rfl ?_
  generalize hσ1 : ((upd2 σ.1 (2, 0, h) 6 (1 : Int32), σ.2) : Sg) = σ1
  have hWσ1 := hw_F hH (by decide) hσ1
  refine g_blk (pc' := 8) (loc' := [some (vR (2, 0, h)), none]) (st' := [vI (-6 : Int32), vR (2, 0, h)]) (σ' := σ1) fl1_ok [(5, .aload_n 0), (6, .bipush (-6))] (by decide +kernel) rfl rfl ?_
  refine g_callVp (2, 0, h) [vI (-6 : Int32)] [] vl_RX1_77 mi_X1_leastLoaded (c_X1_leastLoaded l hWσ1.2.1 (-6 : Int32)) rfl rfl rfl rfl ⟨Nat.le_of_ble_eq_true rfl, Nat.le_of_ble_eq_true rfl⟩ rfl (Nat.le_of_ble_eq_true rfl) (by decide +kernel) ?_
  refine g_blk (pc' := 13) (loc' := [some (vR (2, 0, h)), none]) (st' := [vI (-6 : Int32), vI (leastS (habs σ1 h) (-6 : Int32))]) (σ' := σ1) fl1_ok [(11, .bipush (-6))] (by decide +kernel) rfl rfl ?_
  refine g_icmp_eq (off := 7) (tgt := 20) (by decide +kernel) (by decide) (fun zc13 => ?_) (fun zc13 => ?_)
  · refine g_blk (pc' := 23) (loc' := [some (vR (2, 0, h)), some (vI (0 : Int32))]) (st' := [vI (0 : Int32)]) (σ' := σ1) fl1_ok [(20, .iconst 0), (21, .istore_n 1), (22, .iload_n 1)] (by decide +kernel) rfl rfl ?_
    refine g_if_eq (off := 11) (tgt := 34) (by decide +kernel) (by decide) (fun zc23 => ?_) (fun zc23 => ?_)
    · refine g_blk (pc' := 38) (loc' := [some (vR (2, 0, h)), some (vI (0 : Int32))]) (st' := [vR (0, 2, h)]) (σ' := σ1) fl1_ok [(34, .aload_n 0), (35, .getfield 23)] (by decide +kernel) rfl rfl ?_
      refine g_callVp (0, 2, h) [] [] vl_RX1_66 mi_X3_size (ct_size l hWσ1.2.1 2 (by decide)) rfl rfl rfl rfl ⟨Nat.le_of_ble_eq_true rfl, Nat.le_of_ble_eq_true rfl⟩ rfl (Nat.le_of_ble_eq_true rfl) (by decide +kernel) ?_
      rw [hWσ1.1] at zc13
      refine g_iret (by decide +kernel) ⟨?_, ⟨?_, hWσ1.2.1, hWσ1.2.2⟩⟩
      · rw [hWσ1.1]
        unfold planS
        simp only
        rw [if_pos zc13]
      · rw [hWσ1.1]
        unfold planS
        simp only
        rw [if_pos zc13]
    · exact absurd zc23 (by decide)
  · refine g_blk (pc' := 23) (loc' := [some (vR (2, 0, h)), some (vI (1 : Int32))]) (st' := [vI (1 : Int32)]) (σ' := σ1) fl1_ok [(16, .iconst 1), (17, .goto 4), (21, .istore_n 1), (22, .iload_n 1)] (by decide +kernel) rfl rfl ?_
    refine g_if_eq (off := 11) (tgt := 34) (by decide +kernel) (by decide) (fun zc23 => ?_) (fun zc23 => ?_)
    · exact absurd zc23 (by decide)
    · refine g_blk (pc' := 27) (loc' := [some (vR (2, 0, h)), some (vI (1 : Int32))]) (st' := [vR (2, 0, h)]) (σ' := σ1) fl1_ok [(26, .aload_n 0)] (by decide +kernel) rfl rfl ?_
      refine g_callV (2, 0, h) [] [] vl_RX1_81 mi_X1_makeTasks (c_X1_makeTasks l hWσ1.2.1 (by rw [hWσ1.1]; exact h0)) rfl rfl rfl rfl ⟨Nat.le_of_ble_eq_true rfl, Nat.le_of_ble_eq_true rfl⟩ rfl (Nat.le_of_ble_eq_true rfl) (by decide +kernel) (fun o σ2 hPσ2 => ?_)
      obtain ⟨rfl, hWσ2⟩ := hPσ2
      refine g_blk (pc' := 31) (loc' := [some (vR (2, 0, h)), some (vI (1 : Int32))]) (st' := [vR (2, 0, h)]) (σ' := σ2) fl1_ok [(30, .aload_n 0)] (by decide +kernel) rfl rfl ?_
      refine g_callV (2, 0, h) [] [] vl_RX1_84 mi_X1_giveTasks (c_X1_giveTasks l hWσ2.2.1) rfl rfl rfl rfl ⟨Nat.le_of_ble_eq_true rfl, Nat.le_of_ble_eq_true rfl⟩ rfl (Nat.le_of_ble_eq_true rfl) (by decide +kernel) (fun o σ3 hPσ3 => ?_)
      obtain ⟨rfl, hWσ3⟩ := hPσ3
      refine g_blk (pc' := 38) (loc' := [some (vR (2, 0, h)), some (vI (1 : Int32))]) (st' := [vR (0, 2, h)]) (σ' := σ3) fl1_ok [(34, .aload_n 0), (35, .getfield 23)] (by decide +kernel) rfl rfl ?_
      refine g_callVp (0, 2, h) [] [] vl_RX1_66 mi_X3_size (ct_size l hWσ3.2.1 2 (by decide)) rfl rfl rfl rfl ⟨Nat.le_of_ble_eq_true rfl, Nat.le_of_ble_eq_true rfl⟩ rfl (Nat.le_of_ble_eq_true rfl) (by decide +kernel) ?_
      rw [hWσ1.1] at zc13
      refine g_iret (by decide +kernel) ⟨?_, ⟨?_, hWσ3.2.1, ((hWσ1.2.2).tr hWσ2.2.2).tr hWσ3.2.2⟩⟩
      · rw [hWσ3.1, hWσ2.1, hWσ1.1]
        unfold planS
        simp only
        rw [if_neg zc13]
      · rw [hWσ3.1, hWσ2.1, hWσ1.1]
        unfold planS
        simp only
        rw [if_neg zc13]
set_option maxHeartbeats 2000000 in
theorem lp_X1_endWeek (l : Launch) {σ0 : Sg} {h : Nat} {Sk : HA} (c : Int32) : ∀ (k i : Nat) (σ : Sg), HOK σ h → i + k = sz (habs σ h) 2 → skipF k i (habs σ h) = Sk → FrH h σ0 σ → G l (Rm 3) RX1 cX1_endWeek 3 (some .int) (fun o σ' => o = some (vI c) ∧ HW h (endR Sk) σ0 σ') 7 [some (vR (2, 0, h)), some (vI c), some (vI (nI i))] [] σ := by
  intro k
  induction k with
  | zero =>
    intro i σ hH hk hd hF
    refine g_blk (pc' := 12) (loc' := [some (vR (2, 0, h)), some (vI c), some (vI (nI i))]) (st' := [vR (0, 2, h), vI (nI i)]) (σ' := σ) fl1_ok [(7, .iload_n 2), (8, .aload_n 0), (9, .getfield 23)] (by decide +kernel) rfl rfl ?_
    refine g_callVp (0, 2, h) [] [vI (nI i)] vl_RX1_66 mi_X3_size (ct_size l hH 2 (by decide)) rfl rfl rfl rfl ⟨Nat.le_of_ble_eq_true rfl, Nat.le_of_ble_eq_true rfl⟩ rfl (Nat.le_of_ble_eq_true rfl) (by decide +kernel) ?_
    refine g_icmp_ge (off := 22) (tgt := 37) (by decide +kernel) (by decide) (fun zc15 => ?_) (fun zc15 => ?_)
    · have hm : sz (habs σ h) 2 ≤ 12 := ha_N hH 2 (by decide)
      rw [nI_leI (by omega) (by omega)] at zc15
      refine g_blk (pc' := 41) (loc' := [some (vR (2, 0, h)), some (vI c), some (vI (nI i))]) (st' := [vR (0, 2, h)]) (σ' := σ) fl1_ok [(37, .aload_n 0), (38, .getfield 23)] (by decide +kernel) rfl rfl ?_
      refine g_callV (0, 2, h) [] [] vl_RX1_155 mi_X3_clear (ct_clear l hH 2 (by decide)) rfl rfl rfl rfl ⟨Nat.le_of_ble_eq_true rfl, Nat.le_of_ble_eq_true rfl⟩ rfl (Nat.le_of_ble_eq_true rfl) (by decide +kernel) (fun o σ1 hPσ1 => ?_)
      obtain ⟨rfl, hWσ1⟩ := hPσ1
      refine g_blk (pc' := 48) (loc' := [some (vR (2, 0, h)), some (vI c), some (vI (nI i))]) (st' := [vR (0, 3, h)]) (σ' := σ1) fl1_ok [(44, .aload_n 0), (45, .getfield 26)] (by decide +kernel) rfl rfl ?_
      refine g_callV (0, 3, h) [] [] vl_RX1_155 mi_X3_clear (ct_clear l hWσ1.2.1 3 (by decide)) rfl rfl rfl rfl ⟨Nat.le_of_ble_eq_true rfl, Nat.le_of_ble_eq_true rfl⟩ rfl (Nat.le_of_ble_eq_true rfl) (by decide +kernel) (fun o σ2 hPσ2 => ?_)
      obtain ⟨rfl, hWσ2⟩ := hPσ2
      refine g_blk (pc' := 52) (loc' := [some (vR (2, 0, h)), some (vI c), some (vI (nI i))]) (st' := [vR (2, 0, h)]) (σ' := σ2) fl1_ok [(51, .aload_n 0)] (by decide +kernel) rfl rfl ?_
      refine g_callV (2, 0, h) [] [] vl_RX1_158 mi_X1_decayPoints (c_X1_decayPoints l hWσ2.2.1) rfl rfl rfl rfl ⟨Nat.le_of_ble_eq_true rfl, Nat.le_of_ble_eq_true rfl⟩ rfl (Nat.le_of_ble_eq_true rfl) (by decide +kernel) (fun o σ3 hPσ3 => ?_)
      obtain ⟨rfl, hWσ3⟩ := hPσ3
      refine g_blk (pc' := 56) (loc' := [some (vR (2, 0, h)), some (vI c), some (vI (nI i))]) (st' := [vR (2, 0, h)]) (σ' := σ3) fl1_ok [(55, .aload_n 0)] (by decide +kernel) rfl rfl ?_
      refine g_callV (2, 0, h) [] [] vl_RX1_161 mi_X1_growDirt (c_X1_growDirt l hWσ3.2.1) rfl rfl rfl rfl ⟨Nat.le_of_ble_eq_true rfl, Nat.le_of_ble_eq_true rfl⟩ rfl (Nat.le_of_ble_eq_true rfl) (by decide +kernel) (fun o σ4 hPσ4 => ?_)
      obtain ⟨rfl, hWσ4⟩ := hPσ4
      refine g_blk (pc' := 69) (loc' := [some (vR (2, 0, h)), some (vI c), some (vI (nI i))]) (st' := []) (σ' := (upd2 σ4.1 (2, 0, h) 5 (((habs σ4 h).2 5) + (1 : Int32)), σ4.2)) fl1_ok [(59, .aload_n 0), (60, .dup), (61, .getfield 44), (64, .iconst 1), (65, .iadd), (66, .putfield 44)] (by decide +kernel) rfl rfl ?_
      generalize hσ5 : ((upd2 σ4.1 (2, 0, h) 5 (((habs σ4 h).2 5) + (1 : Int32)), σ4.2) : Sg) = σ5
      have hWσ5 := hw_F hWσ4.2.1 (by decide) hσ5
      refine g_blk (pc' := 74) (loc' := [some (vR (2, 0, h)), some (vI c), some (vI (nI i))]) (st' := []) (σ' := (upd2 σ5.1 (2, 0, h) 6 (0 : Int32), σ5.2)) fl1_ok [(69, .aload_n 0), (70, .iconst 0), (71, .putfield 48)] (by decide +kernel) rfl rfl ?_
      generalize hσ6 : ((upd2 σ5.1 (2, 0, h) 6 (0 : Int32), σ5.2) : Sg) = σ6
      have hWσ6 := hw_F hWσ5.2.1 (by decide) hσ6
      refine g_blk (pc' := 75) (loc' := [some (vR (2, 0, h)), some (vI c), some (vI (nI i))]) (st' := [vI c]) (σ' := σ6) fl1_ok [(74, .iload_n 1)] (by decide +kernel) rfl rfl ?_
      have hd1 : habs σ h = Sk := hd
      exact g_iret (by decide +kernel) ⟨rfl, ⟨by rw [hWσ6.1, hWσ5.1, hWσ4.1, hWσ3.1, hWσ2.1, hWσ1.1, hd1] <;> rfl, hWσ6.2.1, hF.tr ((((((hWσ1.2.2).tr hWσ2.2.2).tr hWσ3.2.2).tr hWσ4.2.2).tr hWσ5.2.2).tr hWσ6.2.2)⟩⟩
    · have hm : sz (habs σ h) 2 ≤ 12 := ha_N hH 2 (by decide)
      rw [nI_leI (by omega) (by omega)] at zc15
      exact absurd (by omega) zc15
  | succ k ih =>
    intro i σ hH hk hd hF
    refine g_blk (pc' := 12) (loc' := [some (vR (2, 0, h)), some (vI c), some (vI (nI i))]) (st' := [vR (0, 2, h), vI (nI i)]) (σ' := σ) fl1_ok [(7, .iload_n 2), (8, .aload_n 0), (9, .getfield 23)] (by decide +kernel) rfl rfl ?_
    refine g_callVp (0, 2, h) [] [vI (nI i)] vl_RX1_66 mi_X3_size (ct_size l hH 2 (by decide)) rfl rfl rfl rfl ⟨Nat.le_of_ble_eq_true rfl, Nat.le_of_ble_eq_true rfl⟩ rfl (Nat.le_of_ble_eq_true rfl) (by decide +kernel) ?_
    refine g_icmp_ge (off := 22) (tgt := 37) (by decide +kernel) (by decide) (fun zc15 => ?_) (fun zc15 => ?_)
    · have hm : sz (habs σ h) 2 ≤ 12 := ha_N hH 2 (by decide)
      rw [nI_leI (by omega) (by omega)] at zc15
      exact absurd zc15 (by omega)
    · have hm : sz (habs σ h) 2 ≤ 12 := ha_N hH 2 (by decide)
      rw [nI_leI (by omega) (by omega)] at zc15
      refine g_blk (pc' := 20) (loc' := [some (vR (2, 0, h)), some (vI c), some (vI (nI i))]) (st' := [vI (nI i), vR (2, 0, h)]) (σ' := σ) fl1_ok [(18, .aload_n 0), (19, .iload_n 2)] (by decide +kernel) rfl rfl ?_
      refine g_callVp (2, 0, h) [vI (nI i)] [] vl_RX1_124 mi_X1_isOpen (c_X1_isOpen l hH (nI i)) rfl rfl rfl rfl ⟨Nat.le_of_ble_eq_true rfl, Nat.le_of_ble_eq_true rfl⟩ rfl (Nat.le_of_ble_eq_true rfl) (by decide +kernel) ?_
      refine g_if_eq (off := 8) (tgt := 31) (by decide +kernel) (by decide) (fun zc23 => ?_) (fun zc23 => ?_)
      · refine g_blk (pc' := 7) (loc' := [some (vR (2, 0, h)), some (vI c), some (vI ((nI i) + (1 : Int32)))]) (st' := []) (σ' := σ) fl1_ok [(31, .iinc 2 1), (34, .goto (-27))] (by decide +kernel) rfl rfl ?_
        rw [skipF, if_pos zc23] at hd
        rw [nI_1]
        exact ih (i + 1) σ hH (by omega) hd hF
      · refine g_blk (pc' := 28) (loc' := [some (vR (2, 0, h)), some (vI c), some (vI (nI i))]) (st' := [vI (nI i), vR (2, 0, h)]) (σ' := σ) fl1_ok [(26, .aload_n 0), (27, .iload_n 2)] (by decide +kernel) rfl rfl ?_
        refine g_callV (2, 0, h) [vI (nI i)] [] vl_RX1_152 mi_X1_skip (c_X1_skip l (nI i) hH) rfl rfl rfl rfl ⟨Nat.le_of_ble_eq_true rfl, Nat.le_of_ble_eq_true rfl⟩ rfl (Nat.le_of_ble_eq_true rfl) (by decide +kernel) (fun o σ1 hPσ1 => ?_)
        obtain ⟨rfl, hWσ1⟩ := hPσ1
        refine g_blk (pc' := 7) (loc' := [some (vR (2, 0, h)), some (vI c), some (vI ((nI i) + (1 : Int32)))]) (st' := []) (σ' := σ1) fl1_ok [(31, .iinc 2 1), (34, .goto (-27))] (by decide +kernel) rfl rfl ?_
        rw [skipF, if_neg zc23] at hd
        rw [nI_1]
        exact ih (i + 1) σ1 hWσ1.2.1 (by rw [hWσ1.1]; show i + 1 + k = sz (habs σ h) 2; omega) (by rw [hWσ1.1]; exact hd) (hF.tr (hWσ1.2.2))
set_option maxHeartbeats 2000000 in
theorem c_X1_endWeek (l : Launch) {σ : Sg} {h : Nat} (hH : HOK σ h) : Con l 3 yX1_endWeek cX1_endWeek 3 (some .int) [vR (2, 0, h)] σ (fun o σ' => o = some (vI (cntL (habs σ h) (sz (habs σ h) 2))) ∧ HW h (endS (habs σ h)) σ σ') := by
  refine con_of pn_X1_endWeek (Nat.le_of_ble_eq_true rfl) (fun hPK hok => ?_)
  show G l (Rm 3) RX1 cX1_endWeek 3 (some .int) _ 0 [some (vR (2, 0, h)), none, none] [] σ
  refine g_blk (pc' := 1) (loc' := [some (vR (2, 0, h)), none, none]) (st' := [vR (2, 0, h)]) (σ' := σ) fl1_ok [(0, .aload_n 0)] (by decide +kernel) rfl rfl ?_
  refine g_callVp (2, 0, h) [] [] vl_RX1_149 mi_X1_countOpenTasks (c_X1_countOpenTasks l hH) rfl rfl rfl rfl ⟨Nat.le_of_ble_eq_true rfl, Nat.le_of_ble_eq_true rfl⟩ rfl (Nat.le_of_ble_eq_true rfl) (by decide +kernel) ?_
  refine g_blk (pc' := 7) (loc' := [some (vR (2, 0, h)), some (vI (cntL (habs σ h) (sz (habs σ h) 2))), some (vI (0 : Int32))]) (st' := []) (σ' := σ) fl1_ok [(4, .istore_n 1), (5, .iconst 0), (6, .istore_n 2)] (by decide +kernel) rfl rfl ?_
  exact lp_X1_endWeek l _ (sz (habs σ h) 2) 0 σ hH (by omega) rfl FrH.rf
set_option maxHeartbeats 2000000 in
theorem c_X1_acceptSwap (l : Launch) {σ : Sg} {h : Nat} (s : Int32) (hH : HOK σ h) : Con l 3 yX1_acceptSwap cX1_acceptSwap 7 (some .int) [vR (2, 0, h), vI s] σ (fun o σ' => o = some (vI (nI (sz (accS (habs σ h) s) 3))) ∧ HW h (accS (habs σ h) s) σ σ') := by
  refine con_of pn_X1_acceptSwap (Nat.le_of_ble_eq_true rfl) (fun hPK hok => ?_)
  show G l (Rm 3) RX1 cX1_acceptSwap 7 (some .int) _ 0 [some (vR (2, 0, h)), some (vI s), none, none, none, none, none] [] σ
  refine g_blk (pc' := 6) (loc' := [some (vR (2, 0, h)), some (vI s), none, none, none, none, none]) (st' := [vI (0 : Int32), vI s, vR (0, 3, h)]) (σ' := σ) fl1_ok [(0, .aload_n 0), (1, .getfield 26), (4, .iload_n 1), (5, .iconst 0)] (by decide +kernel) rfl rfl ?_
  refine g_callVp (0, 3, h) [vI s, vI (0 : Int32)] [] vl_RX1_58 mi_X3_cell (ct_cell l hH 3 (by decide) s (0 : Int32)) rfl rfl rfl rfl ⟨Nat.le_of_ble_eq_true rfl, Nat.le_of_ble_eq_true rfl⟩ rfl (Nat.le_of_ble_eq_true rfl) (by decide +kernel) ?_
  refine g_blk (pc' := 16) (loc' := [some (vR (2, 0, h)), some (vI s), some (vI (cl (habs σ h) 3 s (0 : Int32))), none, none, none, none]) (st' := [vI (1 : Int32), vI s, vR (0, 3, h)]) (σ' := σ) fl1_ok [(9, .istore_n 2), (10, .aload_n 0), (11, .getfield 26), (14, .iload_n 1), (15, .iconst 1)] (by decide +kernel) rfl rfl ?_
  refine g_callVp (0, 3, h) [vI s, vI (1 : Int32)] [] vl_RX1_58 mi_X3_cell (ct_cell l hH 3 (by decide) s (1 : Int32)) rfl rfl rfl rfl ⟨Nat.le_of_ble_eq_true rfl, Nat.le_of_ble_eq_true rfl⟩ rfl (Nat.le_of_ble_eq_true rfl) (by decide +kernel) ?_
  refine g_blk (pc' := 26) (loc' := [some (vR (2, 0, h)), some (vI s), some (vI (cl (habs σ h) 3 s (0 : Int32))), some (vI (cl (habs σ h) 3 s (1 : Int32))), none, none, none]) (st' := [vI (1 : Int32), vI (cl (habs σ h) 3 s (0 : Int32)), vR (0, 2, h)]) (σ' := σ) fl1_ok [(19, .istore_n 3), (20, .aload_n 0), (21, .getfield 23), (24, .iload_n 2), (25, .iconst 1)] (by decide +kernel) rfl rfl ?_
  refine g_callVp (0, 2, h) [vI (cl (habs σ h) 3 s (0 : Int32)), vI (1 : Int32)] [] vl_RX1_58 mi_X3_cell (ct_cell l hH 2 (by decide) (cl (habs σ h) 3 s (0 : Int32)) (1 : Int32)) rfl rfl rfl rfl ⟨Nat.le_of_ble_eq_true rfl, Nat.le_of_ble_eq_true rfl⟩ rfl (Nat.le_of_ble_eq_true rfl) (by decide +kernel) ?_
  refine g_blk (pc' := 37) (loc' := [some (vR (2, 0, h)), some (vI s), some (vI (cl (habs σ h) 3 s (0 : Int32))), some (vI (cl (habs σ h) 3 s (1 : Int32))), some (vI (cl (habs σ h) 2 (cl (habs σ h) 3 s (0 : Int32)) (1 : Int32))), none, none]) (st' := [vI (1 : Int32), vI (cl (habs σ h) 3 s (1 : Int32)), vR (0, 2, h)]) (σ' := σ) fl1_ok [(29, .istore 4), (31, .aload_n 0), (32, .getfield 23), (35, .iload_n 3), (36, .iconst 1)] (by decide +kernel) rfl rfl ?_
  refine g_callVp (0, 2, h) [vI (cl (habs σ h) 3 s (1 : Int32)), vI (1 : Int32)] [] vl_RX1_58 mi_X3_cell (ct_cell l hH 2 (by decide) (cl (habs σ h) 3 s (1 : Int32)) (1 : Int32)) rfl rfl rfl rfl ⟨Nat.le_of_ble_eq_true rfl, Nat.le_of_ble_eq_true rfl⟩ rfl (Nat.le_of_ble_eq_true rfl) (by decide +kernel) ?_
  refine g_blk (pc' := 45) (loc' := [some (vR (2, 0, h)), some (vI s), some (vI (cl (habs σ h) 3 s (0 : Int32))), some (vI (cl (habs σ h) 3 s (1 : Int32))), some (vI (cl (habs σ h) 2 (cl (habs σ h) 3 s (0 : Int32)) (1 : Int32))), some (vI (cl (habs σ h) 2 (cl (habs σ h) 3 s (1 : Int32)) (1 : Int32))), none]) (st' := [vI (cl (habs σ h) 3 s (1 : Int32)), vI (cl (habs σ h) 3 s (0 : Int32)), vR (2, 0, h)]) (σ' := σ) fl1_ok [(40, .istore 5), (42, .aload_n 0), (43, .iload_n 2), (44, .iload_n 3)] (by decide +kernel) rfl rfl ?_
  refine g_callVp (2, 0, h) [vI (cl (habs σ h) 3 s (0 : Int32)), vI (cl (habs σ h) 3 s (1 : Int32))] [] vl_RX1_167 mi_X1_gainOfExchange (c_X1_gainOfExchange l hH (cl (habs σ h) 3 s (0 : Int32)) (cl (habs σ h) 3 s (1 : Int32))) rfl rfl rfl rfl ⟨Nat.le_of_ble_eq_true rfl, Nat.le_of_ble_eq_true rfl⟩ rfl (Nat.le_of_ble_eq_true rfl) (by decide +kernel) ?_
  refine g_blk (pc' := 58) (loc' := [some (vR (2, 0, h)), some (vI s), some (vI (cl (habs σ h) 3 s (0 : Int32))), some (vI (cl (habs σ h) 3 s (1 : Int32))), some (vI (cl (habs σ h) 2 (cl (habs σ h) 3 s (0 : Int32)) (1 : Int32))), some (vI (cl (habs σ h) 2 (cl (habs σ h) 3 s (1 : Int32)) (1 : Int32))), some (vI (gainS (habs σ h) (cl (habs σ h) 3 s (0 : Int32)) (cl (habs σ h) 3 s (1 : Int32))))]) (st' := [vI (cl (habs σ h) 2 (cl (habs σ h) 3 s (1 : Int32)) (1 : Int32)), vI (1 : Int32), vI (cl (habs σ h) 3 s (0 : Int32)), vR (0, 2, h)]) (σ' := σ) fl1_ok [(48, .istore 6), (50, .aload_n 0), (51, .getfield 23), (54, .iload_n 2), (55, .iconst 1), (56, .iload 5)] (by decide +kernel) rfl rfl ?_
  refine g_callV (0, 2, h) [vI (cl (habs σ h) 3 s (0 : Int32)), vI (1 : Int32), vI (cl (habs σ h) 2 (cl (habs σ h) 3 s (1 : Int32)) (1 : Int32))] [] vl_RX1_36 mi_X3_write (ct_write l hH 2 (by decide) (cl (habs σ h) 3 s (0 : Int32)) (1 : Int32) (cl (habs σ h) 2 (cl (habs σ h) 3 s (1 : Int32)) (1 : Int32))) rfl rfl rfl rfl ⟨Nat.le_of_ble_eq_true rfl, Nat.le_of_ble_eq_true rfl⟩ rfl (Nat.le_of_ble_eq_true rfl) (by decide +kernel) (fun o σ1 hPσ1 => ?_)
  obtain ⟨rfl, hWσ1⟩ := hPσ1
  refine g_blk (pc' := 69) (loc' := [some (vR (2, 0, h)), some (vI s), some (vI (cl (habs σ h) 3 s (0 : Int32))), some (vI (cl (habs σ h) 3 s (1 : Int32))), some (vI (cl (habs σ h) 2 (cl (habs σ h) 3 s (0 : Int32)) (1 : Int32))), some (vI (cl (habs σ h) 2 (cl (habs σ h) 3 s (1 : Int32)) (1 : Int32))), some (vI (gainS (habs σ h) (cl (habs σ h) 3 s (0 : Int32)) (cl (habs σ h) 3 s (1 : Int32))))]) (st' := [vI (cl (habs σ h) 2 (cl (habs σ h) 3 s (0 : Int32)) (1 : Int32)), vI (1 : Int32), vI (cl (habs σ h) 3 s (1 : Int32)), vR (0, 2, h)]) (σ' := σ1) fl1_ok [(61, .aload_n 0), (62, .getfield 23), (65, .iload_n 3), (66, .iconst 1), (67, .iload 4)] (by decide +kernel) rfl rfl ?_
  refine g_callV (0, 2, h) [vI (cl (habs σ h) 3 s (1 : Int32)), vI (1 : Int32), vI (cl (habs σ h) 2 (cl (habs σ h) 3 s (0 : Int32)) (1 : Int32))] [] vl_RX1_36 mi_X3_write (ct_write l hWσ1.2.1 2 (by decide) (cl (habs σ h) 3 s (1 : Int32)) (1 : Int32) (cl (habs σ h) 2 (cl (habs σ h) 3 s (0 : Int32)) (1 : Int32))) rfl rfl rfl rfl ⟨Nat.le_of_ble_eq_true rfl, Nat.le_of_ble_eq_true rfl⟩ rfl (Nat.le_of_ble_eq_true rfl) (by decide +kernel) (fun o σ2 hPσ2 => ?_)
  obtain ⟨rfl, hWσ2⟩ := hPσ2
  refine g_blk (pc' := 82) (loc' := [some (vR (2, 0, h)), some (vI s), some (vI (cl (habs σ h) 3 s (0 : Int32))), some (vI (cl (habs σ h) 3 s (1 : Int32))), some (vI (cl (habs σ h) 2 (cl (habs σ h) 3 s (0 : Int32)) (1 : Int32))), some (vI (cl (habs σ h) 2 (cl (habs σ h) 3 s (1 : Int32)) (1 : Int32))), some (vI (gainS (habs σ h) (cl (habs σ h) 3 s (0 : Int32)) (cl (habs σ h) 3 s (1 : Int32))))]) (st' := [vI (gainS (habs σ h) (cl (habs σ h) 3 s (0 : Int32)) (cl (habs σ h) 3 s (1 : Int32))), vI (6 : Int32), vI (cl (habs σ h) 2 (cl (habs σ h) 3 s (0 : Int32)) (1 : Int32)), vR (0, 0, h)]) (σ' := σ2) fl1_ok [(72, .aload_n 0), (73, .getfield 16), (76, .iload 4), (78, .bipush 6), (80, .iload 6)] (by decide +kernel) rfl rfl ?_
  refine g_callV (0, 0, h) [vI (cl (habs σ h) 2 (cl (habs σ h) 3 s (0 : Int32)) (1 : Int32)), vI (6 : Int32), vI (gainS (habs σ h) (cl (habs σ h) 3 s (0 : Int32)) (cl (habs σ h) 3 s (1 : Int32)))] [] vl_RX1_74 mi_X3_increase (ct_increase l hWσ2.2.1 0 (by decide) (cl (habs σ h) 2 (cl (habs σ h) 3 s (0 : Int32)) (1 : Int32)) (6 : Int32) (gainS (habs σ h) (cl (habs σ h) 3 s (0 : Int32)) (cl (habs σ h) 3 s (1 : Int32)))) rfl rfl rfl rfl ⟨Nat.le_of_ble_eq_true rfl, Nat.le_of_ble_eq_true rfl⟩ rfl (Nat.le_of_ble_eq_true rfl) (by decide +kernel) (fun o σ3 hPσ3 => ?_)
  obtain ⟨rfl, hWσ3⟩ := hPσ3
  refine g_blk (pc' := 96) (loc' := [some (vR (2, 0, h)), some (vI s), some (vI (cl (habs σ h) 3 s (0 : Int32))), some (vI (cl (habs σ h) 3 s (1 : Int32))), some (vI (cl (habs σ h) 2 (cl (habs σ h) 3 s (0 : Int32)) (1 : Int32))), some (vI (cl (habs σ h) 2 (cl (habs σ h) 3 s (1 : Int32)) (1 : Int32))), some (vI (gainS (habs σ h) (cl (habs σ h) 3 s (0 : Int32)) (cl (habs σ h) 3 s (1 : Int32))))]) (st' := [vI (-(gainS (habs σ h) (cl (habs σ h) 3 s (0 : Int32)) (cl (habs σ h) 3 s (1 : Int32)))), vI (6 : Int32), vI (cl (habs σ h) 2 (cl (habs σ h) 3 s (1 : Int32)) (1 : Int32)), vR (0, 0, h)]) (σ' := σ3) fl1_ok [(85, .aload_n 0), (86, .getfield 16), (89, .iload 5), (91, .bipush 6), (93, .iload 6), (95, .ineg)] (by decide +kernel) rfl rfl ?_
  refine g_callV (0, 0, h) [vI (cl (habs σ h) 2 (cl (habs σ h) 3 s (1 : Int32)) (1 : Int32)), vI (6 : Int32), vI (-(gainS (habs σ h) (cl (habs σ h) 3 s (0 : Int32)) (cl (habs σ h) 3 s (1 : Int32))))] [] vl_RX1_74 mi_X3_increase (ct_increase l hWσ3.2.1 0 (by decide) (cl (habs σ h) 2 (cl (habs σ h) 3 s (1 : Int32)) (1 : Int32)) (6 : Int32) (-(gainS (habs σ h) (cl (habs σ h) 3 s (0 : Int32)) (cl (habs σ h) 3 s (1 : Int32))))) rfl rfl rfl rfl ⟨Nat.le_of_ble_eq_true rfl, Nat.le_of_ble_eq_true rfl⟩ rfl (Nat.le_of_ble_eq_true rfl) (by decide +kernel) (fun o σ4 hPσ4 => ?_)
  obtain ⟨rfl, hWσ4⟩ := hPσ4
  refine g_blk (pc' := 101) (loc' := [some (vR (2, 0, h)), some (vI s), some (vI (cl (habs σ h) 3 s (0 : Int32))), some (vI (cl (habs σ h) 3 s (1 : Int32))), some (vI (cl (habs σ h) 2 (cl (habs σ h) 3 s (0 : Int32)) (1 : Int32))), some (vI (cl (habs σ h) 2 (cl (habs σ h) 3 s (1 : Int32)) (1 : Int32))), some (vI (gainS (habs σ h) (cl (habs σ h) 3 s (0 : Int32)) (cl (habs σ h) 3 s (1 : Int32))))]) (st' := [vI (cl (habs σ h) 3 s (0 : Int32)), vR (2, 0, h)]) (σ' := σ4) fl1_ok [(99, .aload_n 0), (100, .iload_n 2)] (by decide +kernel) rfl rfl ?_
  refine g_callV (2, 0, h) [vI (cl (habs σ h) 3 s (0 : Int32))] [] vl_RX1_137 mi_X1_dropSwapsWith (c_X1_dropSwapsWith l (cl (habs σ h) 3 s (0 : Int32)) hWσ4.2.1) rfl rfl rfl rfl ⟨Nat.le_of_ble_eq_true rfl, Nat.le_of_ble_eq_true rfl⟩ rfl (Nat.le_of_ble_eq_true rfl) (by decide +kernel) (fun o σ5 hPσ5 => ?_)
  obtain ⟨rfl, hWσ5⟩ := hPσ5
  refine g_blk (pc' := 106) (loc' := [some (vR (2, 0, h)), some (vI s), some (vI (cl (habs σ h) 3 s (0 : Int32))), some (vI (cl (habs σ h) 3 s (1 : Int32))), some (vI (cl (habs σ h) 2 (cl (habs σ h) 3 s (0 : Int32)) (1 : Int32))), some (vI (cl (habs σ h) 2 (cl (habs σ h) 3 s (1 : Int32)) (1 : Int32))), some (vI (gainS (habs σ h) (cl (habs σ h) 3 s (0 : Int32)) (cl (habs σ h) 3 s (1 : Int32))))]) (st' := [vI (cl (habs σ h) 3 s (1 : Int32)), vR (2, 0, h)]) (σ' := σ5) fl1_ok [(104, .aload_n 0), (105, .iload_n 3)] (by decide +kernel) rfl rfl ?_
  refine g_callV (2, 0, h) [vI (cl (habs σ h) 3 s (1 : Int32))] [] vl_RX1_137 mi_X1_dropSwapsWith (c_X1_dropSwapsWith l (cl (habs σ h) 3 s (1 : Int32)) hWσ5.2.1) rfl rfl rfl rfl ⟨Nat.le_of_ble_eq_true rfl, Nat.le_of_ble_eq_true rfl⟩ rfl (Nat.le_of_ble_eq_true rfl) (by decide +kernel) (fun o σ6 hPσ6 => ?_)
  obtain ⟨rfl, hWσ6⟩ := hPσ6
  refine g_blk (pc' := 113) (loc' := [some (vR (2, 0, h)), some (vI s), some (vI (cl (habs σ h) 3 s (0 : Int32))), some (vI (cl (habs σ h) 3 s (1 : Int32))), some (vI (cl (habs σ h) 2 (cl (habs σ h) 3 s (0 : Int32)) (1 : Int32))), some (vI (cl (habs σ h) 2 (cl (habs σ h) 3 s (1 : Int32)) (1 : Int32))), some (vI (gainS (habs σ h) (cl (habs σ h) 3 s (0 : Int32)) (cl (habs σ h) 3 s (1 : Int32))))]) (st' := [vR (0, 3, h)]) (σ' := σ6) fl1_ok [(109, .aload_n 0), (110, .getfield 26)] (by decide +kernel) rfl rfl ?_
  refine g_callVp (0, 3, h) [] [] vl_RX1_66 mi_X3_size (ct_size l hWσ6.2.1 3 (by decide)) rfl rfl rfl rfl ⟨Nat.le_of_ble_eq_true rfl, Nat.le_of_ble_eq_true rfl⟩ rfl (Nat.le_of_ble_eq_true rfl) (by decide +kernel) ?_
  exact g_iret (by decide +kernel) ⟨by rw [hWσ6.1, hWσ5.1, hWσ4.1, hWσ3.1, hWσ2.1, hWσ1.1] <;> rfl, ⟨by rw [hWσ6.1, hWσ5.1, hWσ4.1, hWσ3.1, hWσ2.1, hWσ1.1] <;> rfl, hWσ6.2.1, (((((hWσ1.2.2).tr hWσ2.2.2).tr hWσ3.2.2).tr hWσ4.2.2).tr hWσ5.2.2).tr hWσ6.2.2⟩⟩
set_option maxHeartbeats 2000000 in
theorem c_X1_copyFrom (l : Launch) {σ : Sg} {h h2 : Nat} (hH : HOK σ h) (hH2 : HOK σ h2) (hne : h2 ≠ h) (hz : (habs σ h2).2 6 = 0 ∨ (habs σ h2).2 6 = 1) : Con l 2 yX1_copyFrom cX1_copyFrom 2 none [vR (2, 0, h), vR (2, 0, h2)] σ (fun o σ' => o = none ∧ HW h (habs σ h2) σ σ') := by
  refine con_of pn_X1_copyFrom (Nat.le_of_ble_eq_true rfl) (fun hPK hok => ?_)
  show G l (Rm 2) RX1 cX1_copyFrom 2 none _ 0 [some (vR (2, 0, h)), some (vR (2, 0, h2))] [] σ
  refine g_blk (pc' := 8) (loc' := [some (vR (2, 0, h)), some (vR (2, 0, h2))]) (st' := [vR (0, 0, h2), vR (0, 0, h)]) (σ' := σ) fl1_ok [(0, .aload_n 0), (1, .getfield 16), (4, .aload_n 1), (5, .getfield 16)] (by decide +kernel) rfl rfl ?_
  refine g_callV (0, 0, h) [vR (0, 0, h2)] [] vl_RX1_40 mi_X3_copyFrom (ct_copy l hH hH2 0 (by decide)) rfl rfl rfl rfl ⟨Nat.le_of_ble_eq_true rfl, Nat.le_of_ble_eq_true rfl⟩ rfl (Nat.le_of_ble_eq_true rfl) (by decide +kernel) (fun o σ1 hPσ1 => ?_)
  obtain ⟨rfl, hWσ1⟩ := hPσ1
  refine g_blk (pc' := 19) (loc' := [some (vR (2, 0, h)), some (vR (2, 0, h2))]) (st' := [vR (0, 1, h2), vR (0, 1, h)]) (σ' := σ1) fl1_ok [(11, .aload_n 0), (12, .getfield 20), (15, .aload_n 1), (16, .getfield 20)] (by decide +kernel) rfl rfl ?_
  refine g_callV (0, 1, h) [vR (0, 1, h2)] [] vl_RX1_40 mi_X3_copyFrom (ct_copy l hWσ1.2.1 ((hw_other hne (hWσ1.2.2)).2 hH2) 1 (by decide)) rfl rfl rfl rfl ⟨Nat.le_of_ble_eq_true rfl, Nat.le_of_ble_eq_true rfl⟩ rfl (Nat.le_of_ble_eq_true rfl) (by decide +kernel) (fun o σ2 hPσ2 => ?_)
  obtain ⟨rfl, hWσ2⟩ := hPσ2
  refine g_blk (pc' := 30) (loc' := [some (vR (2, 0, h)), some (vR (2, 0, h2))]) (st' := [vR (0, 2, h2), vR (0, 2, h)]) (σ' := σ2) fl1_ok [(22, .aload_n 0), (23, .getfield 23), (26, .aload_n 1), (27, .getfield 23)] (by decide +kernel) rfl rfl ?_
  refine g_callV (0, 2, h) [vR (0, 2, h2)] [] vl_RX1_40 mi_X3_copyFrom (ct_copy l hWσ2.2.1 ((hw_other hne ((hWσ1.2.2).tr hWσ2.2.2)).2 hH2) 2 (by decide)) rfl rfl rfl rfl ⟨Nat.le_of_ble_eq_true rfl, Nat.le_of_ble_eq_true rfl⟩ rfl (Nat.le_of_ble_eq_true rfl) (by decide +kernel) (fun o σ3 hPσ3 => ?_)
  obtain ⟨rfl, hWσ3⟩ := hPσ3
  refine g_blk (pc' := 41) (loc' := [some (vR (2, 0, h)), some (vR (2, 0, h2))]) (st' := [vR (0, 3, h2), vR (0, 3, h)]) (σ' := σ3) fl1_ok [(33, .aload_n 0), (34, .getfield 26), (37, .aload_n 1), (38, .getfield 26)] (by decide +kernel) rfl rfl ?_
  refine g_callV (0, 3, h) [vR (0, 3, h2)] [] vl_RX1_40 mi_X3_copyFrom (ct_copy l hWσ3.2.1 ((hw_other hne (((hWσ1.2.2).tr hWσ2.2.2).tr hWσ3.2.2)).2 hH2) 3 (by decide)) rfl rfl rfl rfl ⟨Nat.le_of_ble_eq_true rfl, Nat.le_of_ble_eq_true rfl⟩ rfl (Nat.le_of_ble_eq_true rfl) (by decide +kernel) (fun o σ4 hPσ4 => ?_)
  obtain ⟨rfl, hWσ4⟩ := hPσ4
  refine g_blk (pc' := 52) (loc' := [some (vR (2, 0, h)), some (vR (2, 0, h2))]) (st' := [vR (0, 4, h2), vR (0, 4, h)]) (σ' := σ4) fl1_ok [(44, .aload_n 0), (45, .getfield 29), (48, .aload_n 1), (49, .getfield 29)] (by decide +kernel) rfl rfl ?_
  refine g_callV (0, 4, h) [vR (0, 4, h2)] [] vl_RX1_40 mi_X3_copyFrom (ct_copy l hWσ4.2.1 ((hw_other hne ((((hWσ1.2.2).tr hWσ2.2.2).tr hWσ3.2.2).tr hWσ4.2.2)).2 hH2) 4 (by decide)) rfl rfl rfl rfl ⟨Nat.le_of_ble_eq_true rfl, Nat.le_of_ble_eq_true rfl⟩ rfl (Nat.le_of_ble_eq_true rfl) (by decide +kernel) (fun o σ5 hPσ5 => ?_)
  obtain ⟨rfl, hWσ5⟩ := hPσ5
  refine g_blk (pc' := 63) (loc' := [some (vR (2, 0, h)), some (vR (2, 0, h2))]) (st' := []) (σ' := (upd2 σ5.1 (2, 0, h) 5 ((habs σ5 h2).2 5), σ5.2)) fl1_ok [(55, .aload_n 0), (56, .aload_n 1), (57, .getfield 44), (60, .putfield 44)] (by decide +kernel) rfl rfl ?_
  generalize hσ6 : ((upd2 σ5.1 (2, 0, h) 5 ((habs σ5 h2).2 5), σ5.2) : Sg) = σ6
  have hWσ6 := hw_F hWσ5.2.1 (by decide) hσ6
  refine g_blk (pc' := 68) (loc' := [some (vR (2, 0, h)), some (vR (2, 0, h2))]) (st' := [vI ((habs σ6 h2).2 6), vR (2, 0, h)]) (σ' := σ6) fl1_ok [(63, .aload_n 0), (64, .aload_n 1), (65, .getfield 48)] (by decide +kernel) rfl rfl ?_
  refine g_put (index := 48) (k := 6) (ci := 1) fl1_ok (by decide) rfl rfl rfl rfl (Or.inr (by rw [(hw_other hne ((((((hWσ1.2.2).tr hWσ2.2.2).tr hWσ3.2.2).tr hWσ4.2.2).tr hWσ5.2.2).tr hWσ6.2.2)).1]; exact hz)) (by decide +kernel) ?_
  generalize hσ7 : ((upd2 σ6.1 (2, 0, h) 6 ((habs σ6 h2).2 6), σ6.2) : Sg) = σ7
  have hWσ7 := hw_F hWσ6.2.1 (by decide) hσ7
  refine g_blk (pc' := 79) (loc' := [some (vR (2, 0, h)), some (vR (2, 0, h2))]) (st' := []) (σ' := (upd2 σ7.1 (2, 0, h) 7 ((habs σ7 h2).2 7), σ7.2)) fl1_ok [(71, .aload_n 0), (72, .aload_n 1), (73, .getfield 52), (76, .putfield 52)] (by decide +kernel) rfl rfl ?_
  generalize hσ8 : ((upd2 σ7.1 (2, 0, h) 7 ((habs σ7 h2).2 7), σ7.2) : Sg) = σ8
  have hWσ8 := hw_F hWσ7.2.1 (by decide) hσ8
  refine g_blk (pc' := 87) (loc' := [some (vR (2, 0, h)), some (vR (2, 0, h2))]) (st' := []) (σ' := (upd2 σ8.1 (2, 0, h) 8 ((habs σ8 h2).2 8), σ8.2)) fl1_ok [(79, .aload_n 0), (80, .aload_n 1), (81, .getfield 55), (84, .putfield 55)] (by decide +kernel) rfl rfl ?_
  generalize hσ9 : ((upd2 σ8.1 (2, 0, h) 8 ((habs σ8 h2).2 8), σ8.2) : Sg) = σ9
  have hWσ9 := hw_F hWσ8.2.1 (by decide) hσ9
  refine g_vret (by decide +kernel) ⟨rfl, ⟨?_, hWσ9.2.1, ((((((((hWσ1.2.2).tr hWσ2.2.2).tr hWσ3.2.2).tr hWσ4.2.2).tr hWσ5.2.2).tr hWσ6.2.2).tr hWσ7.2.2).tr hWσ8.2.2).tr hWσ9.2.2⟩⟩
  have ho := fun {σ1 : Sg} (hF : FrH h σ σ1) => (hw_other hne hF).1
  rw [hWσ9.1, hWσ8.1, hWσ7.1, hWσ6.1, hWσ5.1, hWσ4.1, hWσ3.1, hWσ2.1, hWσ1.1]
  rw [ho ((((((((hWσ1.2.2).tr hWσ2.2.2).tr hWσ3.2.2).tr hWσ4.2.2).tr hWσ5.2.2).tr hWσ6.2.2).tr hWσ7.2.2).tr hWσ8.2.2), ho (((((((hWσ1.2.2).tr hWσ2.2.2).tr hWσ3.2.2).tr hWσ4.2.2).tr hWσ5.2.2).tr hWσ6.2.2).tr hWσ7.2.2), ho ((((((hWσ1.2.2).tr hWσ2.2.2).tr hWσ3.2.2).tr hWσ4.2.2).tr hWσ5.2.2).tr hWσ6.2.2), ho (((((hWσ1.2.2).tr hWσ2.2.2).tr hWσ3.2.2).tr hWσ4.2.2).tr hWσ5.2.2), ho ((((hWσ1.2.2).tr hWσ2.2.2).tr hWσ3.2.2).tr hWσ4.2.2), ho (((hWσ1.2.2).tr hWσ2.2.2).tr hWσ3.2.2), ho ((hWσ1.2.2).tr hWσ2.2.2), ho (hWσ1.2.2)]
  exact cp_all (habs σ h) (habs σ h2) (ha_hi σ h) (ha_hi σ h2) (ha_hf σ h) (ha_hf σ h2)
