/-! THE MODEL: copies, keeping, its text (laid by wip/whole/mk23.py) -/
set_option maxHeartbeats 2000000 in
theorem lp_X5_putAside (l : Launch) {σ0 : Sg} : ∀ (k j : Nat) (τ : Sg), j + k = 162 → CP (9, 1, 0) 0 (σ0.1 (9, 0, 0)) j σ0 τ → G l (Rm 0) RX5 cX5_putAside 2 none (fun o σ' => o = none ∧ CP (9, 1, 0) 0 (σ0.1 (9, 0, 0)) 162 σ0 σ') 2 [some (vR (8, 0, 0)), some (vI (nI j))] [] (τ) := by
  intro k
  induction k with
  | zero =>
    intro j τ hk hc
    refine g_blk (pc' := 6) (loc' := [some (vR (8, 0, 0)), some (vI (nI j))]) (st' := [vI (162 : Int32), vI (nI j)]) (σ' := τ) fl5_ok [(2, .iload_n 1), (3, .sipush 162)] (by decide +kernel) rfl rfl ?_
    refine g_icmp_ge (off := 21) (tgt := 27) (by decide +kernel) (by decide) (fun zc6 => ?_) (fun zc6 => ?_)
    · rw [show (162 : Int32) = nI 162 from rfl] at zc6
      rw [nI_leI (by omega) (by omega)] at zc6
      obtain rfl : j = 162 := by omega
      exact g_vret (by decide +kernel) ⟨rfl, hc⟩
    · rw [show (162 : Int32) = nI 162 from rfl] at zc6
      rw [nI_leI (by omega) (by omega)] at zc6
      exact absurd (by omega) zc6
  | succ k ih =>
    intro j τ hk hc
    refine g_blk (pc' := 6) (loc' := [some (vR (8, 0, 0)), some (vI (nI j))]) (st' := [vI (162 : Int32), vI (nI j)]) (σ' := τ) fl5_ok [(2, .iload_n 1), (3, .sipush 162)] (by decide +kernel) rfl rfl ?_
    refine g_icmp_ge (off := 21) (tgt := 27) (by decide +kernel) (by decide) (fun zc6 => ?_) (fun zc6 => ?_)
    · rw [show (162 : Int32) = nI 162 from rfl] at zc6
      rw [nI_leI (by omega) (by omega)] at zc6
      exact absurd zc6 (by omega)
    · rw [show (162 : Int32) = nI 162 from rfl] at zc6
      rw [nI_leI (by omega) (by omega)] at zc6
      refine g_blk (pc' := 19) (loc' := [some (vR (8, 0, 0)), some (vI (nI j))]) (st' := [vI (nI j), vR (9, 0, 0), vI (nI j), vR (9, 1, 0)]) (σ' := τ) fl5_ok [(9, .aload_n 0), (10, .getfield 13), (13, .iload_n 1), (14, .aload_n 0), (15, .getfield 7), (18, .iload_n 1)] (by decide +kernel) rfl rfl ?_
      refine g_xld (n := 162) (k := j) rfl rfl (by omega) (by decide) (by decide +kernel) ?_
      refine g_xst (n := 162) (k := j) rfl rfl (by omega) (by decide) (by decide +kernel) ?_
      refine g_blk (pc' := 2) (loc' := [some (vR (8, 0, 0)), some (vI ((nI j) + (1 : Int32)))]) (st' := []) (σ' := (upd2 τ.1 (9, 1, 0) j (τ.1 (9, 0, 0) j), τ.2)) fl5_ok [(21, .iinc 1 1), (24, .goto (-22))] (by decide +kernel) rfl rfl ?_
      have hs := cp_s hc (v := τ.1 (9, 0, 0) j) (congrFun (hc.1.1 (9, 0, 0) (by simp)) j)
      rw [Nat.zero_add] at hs
      rw [nI_1]
      exact ih (j + 1) _ (by omega) hs
set_option maxHeartbeats 2000000 in
theorem c_X5_putAside (l : Launch) {σ : Sg}   : Con l 0 yX5_putAside cX5_putAside 2 none [vR (8, 0, 0)] (σ) (fun o σ' => o = none ∧ CP (9, 1, 0) 0 (σ.1 (9, 0, 0)) 162 σ σ') := by
  refine con_of pn_X5_putAside (Nat.le_of_ble_eq_true rfl) (fun hPK hok => ?_)
  show G l (Rm 0) RX5 cX5_putAside 2 none _ 0 [some (vR (8, 0, 0)), none] [] (σ)
  refine g_blk (pc' := 2) (loc' := [some (vR (8, 0, 0)), some (vI (0 : Int32))]) (st' := []) (σ' := σ) fl5_ok [(0, .iconst 0), (1, .istore_n 1)] (by decide +kernel) rfl rfl ?_
  exact lp_X5_putAside l (σ0 := σ) 162 0 σ (by omega) cp_0
set_option maxHeartbeats 2000000 in
theorem lp_X5_putBack (l : Launch) {σ0 : Sg} : ∀ (k j : Nat) (τ : Sg), j + k = 162 → CP (9, 0, 0) 0 (σ0.1 (9, 1, 0)) j σ0 τ → G l (Rm 0) RX5 cX5_putBack 2 none (fun o σ' => o = none ∧ CP (9, 0, 0) 0 (σ0.1 (9, 1, 0)) 162 σ0 σ') 2 [some (vR (8, 0, 0)), some (vI (nI j))] [] (τ) := by
  intro k
  induction k with
  | zero =>
    intro j τ hk hc
    refine g_blk (pc' := 6) (loc' := [some (vR (8, 0, 0)), some (vI (nI j))]) (st' := [vI (162 : Int32), vI (nI j)]) (σ' := τ) fl5_ok [(2, .iload_n 1), (3, .sipush 162)] (by decide +kernel) rfl rfl ?_
    refine g_icmp_ge (off := 21) (tgt := 27) (by decide +kernel) (by decide) (fun zc6 => ?_) (fun zc6 => ?_)
    · rw [show (162 : Int32) = nI 162 from rfl] at zc6
      rw [nI_leI (by omega) (by omega)] at zc6
      obtain rfl : j = 162 := by omega
      exact g_vret (by decide +kernel) ⟨rfl, hc⟩
    · rw [show (162 : Int32) = nI 162 from rfl] at zc6
      rw [nI_leI (by omega) (by omega)] at zc6
      exact absurd (by omega) zc6
  | succ k ih =>
    intro j τ hk hc
    refine g_blk (pc' := 6) (loc' := [some (vR (8, 0, 0)), some (vI (nI j))]) (st' := [vI (162 : Int32), vI (nI j)]) (σ' := τ) fl5_ok [(2, .iload_n 1), (3, .sipush 162)] (by decide +kernel) rfl rfl ?_
    refine g_icmp_ge (off := 21) (tgt := 27) (by decide +kernel) (by decide) (fun zc6 => ?_) (fun zc6 => ?_)
    · rw [show (162 : Int32) = nI 162 from rfl] at zc6
      rw [nI_leI (by omega) (by omega)] at zc6
      exact absurd zc6 (by omega)
    · rw [show (162 : Int32) = nI 162 from rfl] at zc6
      rw [nI_leI (by omega) (by omega)] at zc6
      refine g_blk (pc' := 19) (loc' := [some (vR (8, 0, 0)), some (vI (nI j))]) (st' := [vI (nI j), vR (9, 1, 0), vI (nI j), vR (9, 0, 0)]) (σ' := τ) fl5_ok [(9, .aload_n 0), (10, .getfield 7), (13, .iload_n 1), (14, .aload_n 0), (15, .getfield 13), (18, .iload_n 1)] (by decide +kernel) rfl rfl ?_
      refine g_xld (n := 162) (k := j) rfl rfl (by omega) (by decide) (by decide +kernel) ?_
      refine g_xst (n := 162) (k := j) rfl rfl (by omega) (by decide) (by decide +kernel) ?_
      refine g_blk (pc' := 2) (loc' := [some (vR (8, 0, 0)), some (vI ((nI j) + (1 : Int32)))]) (st' := []) (σ' := (upd2 τ.1 (9, 0, 0) j (τ.1 (9, 1, 0) j), τ.2)) fl5_ok [(21, .iinc 1 1), (24, .goto (-22))] (by decide +kernel) rfl rfl ?_
      have hs := cp_s hc (v := τ.1 (9, 1, 0) j) (congrFun (hc.1.1 (9, 1, 0) (by simp)) j)
      rw [Nat.zero_add] at hs
      rw [nI_1]
      exact ih (j + 1) _ (by omega) hs
set_option maxHeartbeats 2000000 in
theorem c_X5_putBack (l : Launch) {σ : Sg}   : Con l 0 yX5_putBack cX5_putBack 2 none [vR (8, 0, 0)] (σ) (fun o σ' => o = none ∧ CP (9, 0, 0) 0 (σ.1 (9, 1, 0)) 162 σ σ') := by
  refine con_of pn_X5_putBack (Nat.le_of_ble_eq_true rfl) (fun hPK hok => ?_)
  show G l (Rm 0) RX5 cX5_putBack 2 none _ 0 [some (vR (8, 0, 0)), none] [] (σ)
  refine g_blk (pc' := 2) (loc' := [some (vR (8, 0, 0)), some (vI (0 : Int32))]) (st' := []) (σ' := σ) fl5_ok [(0, .iconst 0), (1, .istore_n 1)] (by decide +kernel) rfl rfl ?_
  exact lp_X5_putBack l (σ0 := σ) 162 0 σ (by omega) cp_0
set_option maxHeartbeats 2000000 in
theorem lp_X5_keep2 (l : Launch) {σ0 : Sg} {n : Nat} (h5 : n ≤ 5) (hn : σ0.1 (8, 0, 0) 3 = nI n) : ∀ (k j : Nat) (τ : Sg), j + k = 162 → CP (9, 2, 0) (162 * n) (σ0.1 (9, 0, 0)) j σ0 τ → G l (Rm 0) RX5 cX5_keep 2 none (fun o σ' => o = none ∧ ∃ τ, CP (9, 2, 0) (162 * n) (σ0.1 (9, 0, 0)) 162 σ0 τ ∧ (upd2 τ.1 (8, 0, 0) 3 (nI (n + 1)), τ.2) = σ') 52 [some (vR (8, 0, 0)), some (vI (nI j))] [] (τ) := by
  intro k
  induction k with
  | zero =>
    intro j τ hk hc
    refine g_blk (pc' := 56) (loc' := [some (vR (8, 0, 0)), some (vI (nI j))]) (st' := [vI (162 : Int32), vI (nI j)]) (σ' := τ) fl5_ok [(52, .iload_n 1), (53, .sipush 162)] (by decide +kernel) rfl rfl ?_
    refine g_icmp_ge (off := 30) (tgt := 86) (by decide +kernel) (by decide) (fun zc56 => ?_) (fun zc56 => ?_)
    · rw [show (162 : Int32) = nI 162 from rfl] at zc56
      rw [nI_leI (by omega) (by omega)] at zc56
      refine g_blk (pc' := 96) (loc' := [some (vR (8, 0, 0)), some (vI (nI j))]) (st' := []) (σ' := (upd2 τ.1 (8, 0, 0) 3 ((τ.1 (8, 0, 0) 3) + (1 : Int32)), τ.2)) fl5_ok [(86, .aload_n 0), (87, .dup), (88, .getfield 25), (91, .iconst 1), (92, .iadd), (93, .putfield 25)] (by decide +kernel) rfl rfl ?_
      generalize hσ1 : ((upd2 τ.1 (8, 0, 0) 3 ((τ.1 (8, 0, 0) 3) + (1 : Int32)), τ.2) : Sg) = σ1
      have h3 : τ.1 (8, 0, 0) 3 = nI n := by rw [hc.1.1 _ (by simp)]; exact hn
      rw [h3, nI_1] at hσ1
      obtain rfl : j = 162 := by omega
      exact g_vret (by decide +kernel) ⟨rfl, τ, hc, hσ1⟩
    · rw [show (162 : Int32) = nI 162 from rfl] at zc56
      rw [nI_leI (by omega) (by omega)] at zc56
      exact absurd (by omega) zc56
  | succ k ih =>
    intro j τ hk hc
    refine g_blk (pc' := 56) (loc' := [some (vR (8, 0, 0)), some (vI (nI j))]) (st' := [vI (162 : Int32), vI (nI j)]) (σ' := τ) fl5_ok [(52, .iload_n 1), (53, .sipush 162)] (by decide +kernel) rfl rfl ?_
    refine g_icmp_ge (off := 30) (tgt := 86) (by decide +kernel) (by decide) (fun zc56 => ?_) (fun zc56 => ?_)
    · rw [show (162 : Int32) = nI 162 from rfl] at zc56
      rw [nI_leI (by omega) (by omega)] at zc56
      exact absurd zc56 (by omega)
    · rw [show (162 : Int32) = nI 162 from rfl] at zc56
      rw [nI_leI (by omega) (by omega)] at zc56
      refine g_blk (pc' := 78) (loc' := [some (vR (8, 0, 0)), some (vI (nI j))]) (st' := [vI (nI j), vR (9, 0, 0), vI (((162 : Int32) * (τ.1 (8, 0, 0) 3)) + (nI j)), vR (9, 2, 0)]) (σ' := τ) fl5_ok [(59, .aload_n 0), (60, .getfield 16), (63, .sipush 162), (66, .aload_n 0), (67, .getfield 25), (70, .imul), (71, .iload_n 1), (72, .iadd), (73, .aload_n 0), (74, .getfield 7), (77, .iload_n 1)] (by decide +kernel) rfl rfl ?_
      refine g_xld (n := 162) (k := j) rfl rfl (by omega) (by decide) (by decide +kernel) ?_
      refine g_xst (n := 972) (k := (162 * n + j)) rfl (by rw [show τ.1 (8, 0, 0) 3 = nI n by rw [hc.1.1 _ (by simp)]; exact hn]; exact ix162 n j) (by omega) (by decide) (by decide +kernel) ?_
      refine g_blk (pc' := 52) (loc' := [some (vR (8, 0, 0)), some (vI ((nI j) + (1 : Int32)))]) (st' := []) (σ' := (upd2 τ.1 (9, 2, 0) (162 * n + j) (τ.1 (9, 0, 0) j), τ.2)) fl5_ok [(80, .iinc 1 1), (83, .goto (-31))] (by decide +kernel) rfl rfl ?_
      have hs := cp_s hc (v := τ.1 (9, 0, 0) j) (congrFun (hc.1.1 (9, 0, 0) (by simp)) j)
      rw [nI_1]
      exact ih (j + 1) _ (by omega) hs
set_option maxHeartbeats 2000000 in
theorem lp_X5_keep1 (l : Launch) {σ0 : Sg} (hn : σ0.1 (8, 0, 0) 3 = nI 6) : ∀ (k j : Nat) (τ : Sg), j + k = 810 → CP (9, 2, 0) 0 (fun i => σ0.1 (9, 2, 0) (i + 162)) j σ0 τ → G l (Rm 0) RX5 cX5_keep 2 none (fun o σ' => o = none ∧ KP 6 σ0 (σ0.1 (9, 0, 0)) σ') 11 [some (vR (8, 0, 0)), some (vI (nI j))] [] (τ) := by
  intro k
  induction k with
  | zero =>
    intro j τ hk hc
    refine g_blk (pc' := 15) (loc' := [some (vR (8, 0, 0)), some (vI (nI j))]) (st' := [vI (810 : Int32), vI (nI j)]) (σ' := τ) fl5_ok [(11, .iload_n 1), (12, .sipush 810)] (by decide +kernel) rfl rfl ?_
    refine g_icmp_ge (off := 25) (tgt := 40) (by decide +kernel) (by decide) (fun zc15 => ?_) (fun zc15 => ?_)
    · rw [show (810 : Int32) = nI 810 from rfl] at zc15
      rw [nI_leI (by omega) (by omega)] at zc15
      refine g_blk (pc' := 52) (loc' := [some (vR (8, 0, 0)), some (vI (0 : Int32))]) (st' := []) (σ' := (upd2 τ.1 (8, 0, 0) 3 ((τ.1 (8, 0, 0) 3) - (1 : Int32)), τ.2)) fl5_ok [(40, .aload_n 0), (41, .dup), (42, .getfield 25), (45, .iconst 1), (46, .isub), (47, .putfield 25), (50, .iconst 0), (51, .istore_n 1)] (by decide +kernel) rfl rfl ?_
      generalize hσ1 : ((upd2 τ.1 (8, 0, 0) 3 ((τ.1 (8, 0, 0) 3) - (1 : Int32)), τ.2) : Sg) = σ1
      obtain rfl : j = 810 := by omega
      rw [show τ.1 (8, 0, 0) 3 - (1 : Int32) = nI 5 by rw [hc.1.1 _ (by simp), hn]; rfl] at hσ1
      refine g_mono (lp_X5_keep2 l (σ0 := σ1) (n := 5) (by decide) (by rw [← hσ1]; exact (congrFun (upd2_same τ.1 (8, 0, 0) 3 (nI 5)) 3).trans up_at) 162 0 σ1 (by omega) cp_0) (fun o σ' hp => ?_)
      obtain ⟨rfl, τ1, g1, g2⟩ := hp
      exact ⟨rfl, kp_hi hc hσ1 g1 g2⟩
    · rw [show (810 : Int32) = nI 810 from rfl] at zc15
      rw [nI_leI (by omega) (by omega)] at zc15
      exact absurd (by omega) zc15
  | succ k ih =>
    intro j τ hk hc
    refine g_blk (pc' := 15) (loc' := [some (vR (8, 0, 0)), some (vI (nI j))]) (st' := [vI (810 : Int32), vI (nI j)]) (σ' := τ) fl5_ok [(11, .iload_n 1), (12, .sipush 810)] (by decide +kernel) rfl rfl ?_
    refine g_icmp_ge (off := 25) (tgt := 40) (by decide +kernel) (by decide) (fun zc15 => ?_) (fun zc15 => ?_)
    · rw [show (810 : Int32) = nI 810 from rfl] at zc15
      rw [nI_leI (by omega) (by omega)] at zc15
      exact absurd zc15 (by omega)
    · rw [show (810 : Int32) = nI 810 from rfl] at zc15
      rw [nI_leI (by omega) (by omega)] at zc15
      refine g_blk (pc' := 32) (loc' := [some (vR (8, 0, 0)), some (vI (nI j))]) (st' := [vI ((nI j) + (162 : Int32)), vR (9, 2, 0), vI (nI j), vR (9, 2, 0)]) (σ' := τ) fl5_ok [(18, .aload_n 0), (19, .getfield 16), (22, .iload_n 1), (23, .aload_n 0), (24, .getfield 16), (27, .iload_n 1), (28, .sipush 162), (31, .iadd)] (by decide +kernel) rfl rfl ?_
      refine g_xld (n := 972) (k := (j + 162)) rfl (nI_add j 162) (by omega) (by decide) (by decide +kernel) ?_
      refine g_xst (n := 972) (k := j) rfl rfl (by omega) (by decide) (by decide +kernel) ?_
      refine g_blk (pc' := 11) (loc' := [some (vR (8, 0, 0)), some (vI ((nI j) + (1 : Int32)))]) (st' := []) (σ' := (upd2 τ.1 (9, 2, 0) j (τ.1 (9, 2, 0) (j + 162)), τ.2)) fl5_ok [(34, .iinc 1 1), (37, .goto (-26))] (by decide +kernel) rfl rfl ?_
      have hs := cp_s hc (v := τ.1 (9, 2, 0) (j + 162)) (cp_out hc (by omega))
      rw [Nat.zero_add] at hs
      rw [nI_1]
      exact ih (j + 1) _ (by omega) hs
set_option maxHeartbeats 2000000 in
theorem c_X5_keep (l : Launch) {σ : Sg} {n : Nat} (hn : σ.1 (8, 0, 0) 3 = nI n) (h6 : n ≤ 6) : Con l 0 yX5_keep cX5_keep 2 none [vR (8, 0, 0)] (σ) (fun o σ' => o = none ∧ KP n σ (σ.1 (9, 0, 0)) σ') := by
  refine con_of pn_X5_keep (Nat.le_of_ble_eq_true rfl) (fun hPK hok => ?_)
  show G l (Rm 0) RX5 cX5_keep 2 none _ 0 [some (vR (8, 0, 0)), none] [] (σ)
  refine g_blk (pc' := 6) (loc' := [some (vR (8, 0, 0)), none]) (st' := [vI (6 : Int32), vI (σ.1 (8, 0, 0) 3)]) (σ' := σ) fl5_ok [(0, .aload_n 0), (1, .getfield 25), (4, .bipush 6)] (by decide +kernel) rfl rfl ?_
  refine g_icmp_ne (off := 44) (tgt := 50) (by decide +kernel) (by decide) (fun zc6 => ?_) (fun zc6 => ?_)
  · rw [hn, show (6 : Int32) = nI 6 from rfl, nI_eq (by omega) (by decide)] at zc6
    refine g_blk (pc' := 52) (loc' := [some (vR (8, 0, 0)), some (vI (0 : Int32))]) (st' := []) (σ' := σ) fl5_ok [(50, .iconst 0), (51, .istore_n 1)] (by decide +kernel) rfl rfl ?_
    refine g_mono (lp_X5_keep2 l (σ0 := σ) (n := n) (by omega) hn 162 0 σ (by omega) cp_0) (fun o σ' hp => ?_)
    obtain ⟨rfl, τ1, g1, g2⟩ := hp
    exact ⟨rfl, kp_lo (by omega) g1 g2⟩
  · rw [hn, show (6 : Int32) = nI 6 from rfl, nI_eq (by omega) (by decide)] at zc6
    refine g_blk (pc' := 11) (loc' := [some (vR (8, 0, 0)), some (vI (0 : Int32))]) (st' := []) (σ' := σ) fl5_ok [(9, .iconst 0), (10, .istore_n 1)] (by decide +kernel) rfl rfl ?_
    subst zc6
    exact lp_X5_keep1 l (σ0 := σ) hn 810 0 σ (by omega) cp_0
set_option maxHeartbeats 2000000 in
theorem lp_X5_undo (l : Launch) {σ0 : Sg} {n : Nat} (h5 : n ≤ 5) (hn : σ0.1 (8, 0, 0) 3 = nI n) : ∀ (k j : Nat) (τ : Sg), j + k = 162 → CP (9, 0, 0) 0 (fun k => σ0.1 (9, 2, 0) (162 * n + k)) j σ0 τ → G l (Rm 0) RX5 cX5_undo 2 (some .int) (fun o σ' => o = some (vI (nI n)) ∧ CP (9, 0, 0) 0 (fun k => σ0.1 (9, 2, 0) (162 * n + k)) 162 σ0 σ') 22 [some (vR (8, 0, 0)), some (vI (nI j))] [] (τ) := by
  intro k
  induction k with
  | zero =>
    intro j τ hk hc
    refine g_blk (pc' := 26) (loc' := [some (vR (8, 0, 0)), some (vI (nI j))]) (st' := [vI (162 : Int32), vI (nI j)]) (σ' := τ) fl5_ok [(22, .iload_n 1), (23, .sipush 162)] (by decide +kernel) rfl rfl ?_
    refine g_icmp_ge (off := 30) (tgt := 56) (by decide +kernel) (by decide) (fun zc26 => ?_) (fun zc26 => ?_)
    · rw [show (162 : Int32) = nI 162 from rfl] at zc26
      rw [nI_leI (by omega) (by omega)] at zc26
      refine g_blk (pc' := 60) (loc' := [some (vR (8, 0, 0)), some (vI (nI j))]) (st' := [vI (τ.1 (8, 0, 0) 3)]) (σ' := τ) fl5_ok [(56, .aload_n 0), (57, .getfield 25)] (by decide +kernel) rfl rfl ?_
      obtain rfl : j = 162 := by omega
      exact g_iret (by decide +kernel) ⟨by rw [(show τ.1 (8, 0, 0) 3 = nI n by rw [hc.1.1 _ (by simp)]; exact hn)], hc⟩
    · rw [show (162 : Int32) = nI 162 from rfl] at zc26
      rw [nI_leI (by omega) (by omega)] at zc26
      exact absurd (by omega) zc26
  | succ k ih =>
    intro j τ hk hc
    refine g_blk (pc' := 26) (loc' := [some (vR (8, 0, 0)), some (vI (nI j))]) (st' := [vI (162 : Int32), vI (nI j)]) (σ' := τ) fl5_ok [(22, .iload_n 1), (23, .sipush 162)] (by decide +kernel) rfl rfl ?_
    refine g_icmp_ge (off := 30) (tgt := 56) (by decide +kernel) (by decide) (fun zc26 => ?_) (fun zc26 => ?_)
    · rw [show (162 : Int32) = nI 162 from rfl] at zc26
      rw [nI_leI (by omega) (by omega)] at zc26
      exact absurd zc26 (by omega)
    · rw [show (162 : Int32) = nI 162 from rfl] at zc26
      rw [nI_leI (by omega) (by omega)] at zc26
      refine g_blk (pc' := 48) (loc' := [some (vR (8, 0, 0)), some (vI (nI j))]) (st' := [vI (((162 : Int32) * (τ.1 (8, 0, 0) 3)) + (nI j)), vR (9, 2, 0), vI (nI j), vR (9, 0, 0)]) (σ' := τ) fl5_ok [(29, .aload_n 0), (30, .getfield 7), (33, .iload_n 1), (34, .aload_n 0), (35, .getfield 16), (38, .sipush 162), (41, .aload_n 0), (42, .getfield 25), (45, .imul), (46, .iload_n 1), (47, .iadd)] (by decide +kernel) rfl rfl ?_
      refine g_xld (n := 972) (k := (162 * n + j)) rfl (by rw [(show τ.1 (8, 0, 0) 3 = nI n by rw [hc.1.1 _ (by simp)]; exact hn)]; exact ix162 n j) (by omega) (by decide) (by decide +kernel) ?_
      refine g_xst (n := 162) (k := j) rfl rfl (by omega) (by decide) (by decide +kernel) ?_
      refine g_blk (pc' := 22) (loc' := [some (vR (8, 0, 0)), some (vI ((nI j) + (1 : Int32)))]) (st' := []) (σ' := (upd2 τ.1 (9, 0, 0) j (τ.1 (9, 2, 0) (162 * n + j)), τ.2)) fl5_ok [(50, .iinc 1 1), (53, .goto (-31))] (by decide +kernel) rfl rfl ?_
      have hs := cp_s hc (v := τ.1 (9, 2, 0) (162 * n + j)) (congrFun (hc.1.1 (9, 2, 0) (by simp)) _)
      rw [Nat.zero_add] at hs
      rw [nI_1]
      exact ih (j + 1) _ (by omega) hs
def PTX (P : PV) (σ : Sg) : Prop := P.1 ≤ 60 ∧ (∀ i, P.1 ≤ i → P.2 i = 0) ∧ ∀ i, i < P.1 → σ.1 (9, 3, 0) i = P.2 i
theorem ptx_fr {P : PV} {σ σ1 : Sg} (h : σ1.1 (9, 3, 0) = σ.1 (9, 3, 0)) (hP : PTX P σ) : PTX P σ1 := ⟨hP.1, hP.2.1, fun i hi => by rw [h]; exact hP.2.2 i hi⟩
theorem f8 {σ σ1 : Sg} {k : Nat} {v : Int32} (e : (upd2 σ.1 (8, 0, 0) k v, σ.2) = σ1) : σ1.1 (8, 0, 0) k = v ∧ (∀ j, j ≠ k → σ1.1 (8, 0, 0) j = σ.1 (8, 0, 0) j) ∧ FrA (8, 0, 0) σ σ1 := by
  subst e
  have h : (upd2 σ.1 (8, 0, 0) k v, σ.2).1 (8, 0, 0) = upd (σ.1 (8, 0, 0)) k v := upd2_same σ.1 (8, 0, 0) k v
  exact ⟨by rw [h, up_at], fun j hj => by rw [h, up_ne hj], FrA.up⟩
theorem dig_le {c : Int32} (h : ¬ isInS c 48 57 = 0) : c - 48 ≤ 0 ↔ c = 48 := by
  have h1 : ¬ c < 0 := by
    intro z
    apply h
    rw [isInS, if_pos]
    have := Int32.lt_iff_toInt_lt.mp z
    exact Int32.lt_iff_toInt_lt.mpr (Int.lt_trans this (by decide))
  have h2 : ¬ 57 < c := by
    intro z
    apply h
    rw [isInS]
    split
    · rfl
    · rfl
  obtain ⟨m, hm, rfl⟩ := nI_of h1
  rw [show (57 : Int32) = nI 57 from rfl, nI_ltI (by decide) hm] at h2
  exact (by decide +kernel : ∀ m, m < 58 → (nI m - 48 ≤ 0 ↔ nI m = 48) ∨ isInS (nI m) 48 57 = 0) m (by omega) |>.resolve_right h
def wrS (P : PV) (s : Nat) : Int32 := if eonS P s = s then 1 else 0
theorem eon_no {P : PV} {s : Nat} (h : isInS (P.2 s) 48 57 = 0) : eonS P s = s := by rw [eonS, if_neg (not_not_intro h)]
theorem eon_yes {P : PV} {s : Nat} (h : ¬ isInS (P.2 s) 48 57 = 0) : eonS P s = s + 1 ∨ eonS P s = s + 2 := by
  rw [eonS, if_pos h]
  split
  · exact Or.inl rfl
  · split
    · exact Or.inl rfl
    · exact Or.inr rfl
theorem wr_no {P : PV} {s : Nat} (h : isInS (P.2 s) 48 57 = 0) : wrS P s = 1 := by rw [wrS, if_pos (eon_no h)]
theorem wr_yes {P : PV} {s : Nat} (h : ¬ isInS (P.2 s) 48 57 = 0) : wrS P s = 0 := by
  rw [wrS, if_neg]
  rcases eon_yes h with q | q <;> omega
theorem wr1 {P : PV} {s : Nat} (h : ¬ wrS P s = 0) : eonS P s = s := by
  rw [wrS] at h
  by_cases q : eonS P s = s
  · exact q
  · rw [if_neg q] at h; exact absurd rfl h
theorem wr0 {P : PV} {s : Nat} (h : wrS P s = 0) : ¬ eonS P s = s := by
  intro q
  rw [wrS, if_pos q] at h
  exact absurd h (by decide)
theorem num0 {P : PV} {s : Nat} (h : eonS P s = s) : numS P s (eonS P s) = 0 := by rw [h, numS, Nat.sub_self]; rfl
theorem num1 {P : PV} {s : Nat} (h : eonS P s = s + 1) : numS P s (eonS P s) = P.2 s - 48 := by
  rw [h, numS, show s + 1 - s = 1 by omega]
  show (10 : Int32) * 0 + P.2 s - 48 = _
  rw [show (10 : Int32) * 0 = 0 from rfl, Int32.zero_add]
theorem num2 {P : PV} {s : Nat} (h : eonS P s = s + 2) : numS P s (eonS P s) = 10 * (P.2 s - 48) + P.2 (s + 1) - 48 := by
  rw [h, numS, show s + 2 - s = 2 by omega]
  show (10 : Int32) * (10 * 0 + P.2 s - 48) + P.2 (s + 1) - 48 = _
  rw [show (10 : Int32) * 0 = 0 from rfl, Int32.zero_add]
def TF (σ σ' : Sg) (s : Nat) (w : Int32) : Prop := FrA (8, 0, 0) σ σ' ∧ σ'.1 (8, 0, 0) 6 = nI s ∧ σ'.1 (8, 0, 0) 7 = w ∧ ∀ k, k ≠ 6 → k ≠ 7 → σ'.1 (8, 0, 0) k = σ.1 (8, 0, 0) k
theorem c_X5_in' (l : Launch) {σ : Sg} (x a b : Int32) : Con l 0 yX5_in cX5_in 3 (some .boolean) [vI x, vI a, vI b] σ (pureP (isInS x a b) σ) := by
  have h := c_X5_in l (σ := σ) (f := σ.1 (9, 0, 0)) x a b
  rw [sa_self] at h
  exact h
set_option maxHeartbeats 2000000 in
theorem c_X5_next (l : Launch) {σ : Sg} {P : PV} {s : Nat} (h6 : σ.1 (8, 0, 0) 6 = nI s) (h5 : σ.1 (8, 0, 0) 5 = nI P.1) (hP : PTX P σ) (hs : s < 2 ^ 30) : Con l 0 yX5_next cX5_next 1 (some .int) [vR (8, 0, 0)] (σ) (pureP (P.2 s) σ) := by
  have h60 := hP.1
  refine con_of pn_X5_next (Nat.le_of_ble_eq_true rfl) (fun hPK hok => ?_)
  show G l (Rm 0) RX5 cX5_next 1 (some .int) _ 0 [some (vR (8, 0, 0))] [] (σ)
  refine g_blk (pc' := 8) (loc' := [some (vR (8, 0, 0))]) (st' := [vI (σ.1 (8, 0, 0) 5), vI (σ.1 (8, 0, 0) 6)]) (σ' := σ) fl5_ok [(0, .aload_n 0), (1, .getfield 156), (4, .aload_n 0), (5, .getfield 142)] (by decide +kernel) rfl rfl ?_
  refine g_icmp_ge (off := 15) (tgt := 23) (by decide +kernel) (by decide) (fun zc8 => ?_) (fun zc8 => ?_)
  · have h60 := hP.1
    rw [h6, h5, nI_leI (by omega) (by omega)] at zc8
    refine g_blk (pc' := 24) (loc' := [some (vR (8, 0, 0))]) (st' := [vI (0 : Int32)]) (σ' := σ) fl5_ok [(23, .iconst 0)] (by decide +kernel) rfl rfl ?_
    exact g_iret (by decide +kernel) ⟨by rw [hP.2.1 s zc8], rfl⟩
  · have h60 := hP.1
    rw [h6, h5, nI_leI (by omega) (by omega)] at zc8
    refine g_blk (pc' := 19) (loc' := [some (vR (8, 0, 0))]) (st' := [vI (σ.1 (8, 0, 0) 6), vR (9, 3, 0)]) (σ' := σ) fl5_ok [(11, .aload_n 0), (12, .getfield 19), (15, .aload_n 0), (16, .getfield 156)] (by decide +kernel) rfl rfl ?_
    refine g_xld (n := 60) (k := s) rfl h6 (by omega) (by decide) (by decide +kernel) ?_
    refine g_blk (pc' := 24) (loc' := [some (vR (8, 0, 0))]) (st' := [vI (σ.1 (9, 3, 0) s)]) (σ' := σ) fl5_ok [(20, .goto 4)] (by decide +kernel) rfl rfl ?_
    exact g_iret (by decide +kernel) ⟨by rw [hP.2.2 s (by omega)], rfl⟩
set_option maxHeartbeats 2000000 in
theorem c_X5_takeNumber (l : Launch) {σ : Sg} {P : PV} {s : Nat} (h6 : σ.1 (8, 0, 0) 6 = nI s) (h5 : σ.1 (8, 0, 0) 5 = nI P.1) (hP : PTX P σ) (hs : s < 2 ^ 29) (h7 : σ.1 (8, 0, 0) 7 = 0) : Con l 1 yX5_takeNumber cX5_takeNumber 2 (some .int) [vR (8, 0, 0)] (σ) (fun o σ' => o = some (vI (numS P s (eonS P s))) ∧ TF σ σ' (eonS P s) (wrS P s)) := by
  refine con_of pn_X5_takeNumber (Nat.le_of_ble_eq_true rfl) (fun hPK hok => ?_)
  show G l (Rm 1) RX5 cX5_takeNumber 2 (some .int) _ 0 [some (vR (8, 0, 0)), none] [] (σ)
  refine g_blk (pc' := 5) (loc' := [some (vR (8, 0, 0)), none]) (st' := [vI (σ.1 (8, 0, 0) 7), vR (8, 0, 0)]) (σ' := σ) fl5_ok [(0, .aload_n 0), (1, .aload_n 0), (2, .getfield 159)] (by decide +kernel) rfl rfl ?_
  refine g_if_ne (off := 17) (tgt := 22) (by decide +kernel) (by decide) (fun zc5 => ?_) (fun zc5 => ?_)
  · exact absurd h7 zc5
  · refine g_blk (pc' := 9) (loc' := [some (vR (8, 0, 0)), none]) (st' := [vR (8, 0, 0), vR (8, 0, 0)]) (σ' := σ) fl5_ok [(8, .aload_n 0)] (by decide +kernel) rfl rfl ?_
    refine g_callVp (8, 0, 0) [] [vR (8, 0, 0)] vl_RX5_163 mi_X5_next (c_X5_next l (s := s) h6 h5 hP (by omega)) rfl rfl rfl rfl ⟨Nat.le_of_ble_eq_true rfl, Nat.le_of_ble_eq_true rfl⟩ rfl (Nat.le_of_ble_eq_true rfl) (by decide +kernel) ?_
    refine g_blk (pc' := 16) (loc' := [some (vR (8, 0, 0)), none]) (st' := [vI (57 : Int32), vI (48 : Int32), vI (P.2 s), vR (8, 0, 0)]) (σ' := σ) fl5_ok [(12, .bipush 48), (14, .bipush 57)] (by decide +kernel) rfl rfl ?_
    refine g_callSp [vI (P.2 s), vI (48 : Int32), vI (57 : Int32)] [vR (8, 0, 0)] sl_RX5_29 mi_X5_in (c_X5_in' l (P.2 s) (48 : Int32) (57 : Int32)) rfl ⟨Nat.le_of_ble_eq_true rfl, Nat.le_of_ble_eq_true rfl⟩ rfl (Nat.le_of_ble_eq_true rfl) (by decide +kernel) ?_
    refine g_if_ne (off := 7) (tgt := 26) (by decide +kernel) (by decide) (fun zc19 => ?_) (fun zc19 => ?_)
    · refine g_blk (pc' := 30) (loc' := [some (vR (8, 0, 0)), none]) (st' := []) (σ' := (upd2 σ.1 (8, 0, 0) 7 (0 : Int32), σ.2)) fl5_ok [(26, .iconst 0), (27, .putfield 159)] (by decide +kernel) rfl rfl ?_
      generalize hσ1 : ((upd2 σ.1 (8, 0, 0) 7 (0 : Int32), σ.2) : Sg) = σ1
      obtain ⟨pσ1, qσ1, rσ1⟩ := f8 hσ1
      have h6σ1 : σ1.1 (8, 0, 0) 6 = nI s := (qσ1 6 (by decide)).trans h6
      have h7σ1 : σ1.1 (8, 0, 0) 7 = 0 := pσ1
      have hkσ1 : ∀ k, k ≠ 6 → k ≠ 7 → σ1.1 (8, 0, 0) k = σ.1 (8, 0, 0) k := fun k h6 h7 => (qσ1 k (by omega)).trans rfl
      have hFσ1 : FrA (8, 0, 0) σ σ1 := rσ1
      have hPσ1 : PTX P σ1 := ptx_fr (hFσ1.1 _ (by simp)) hP
      refine g_blk (pc' := 34) (loc' := [some (vR (8, 0, 0)), none]) (st' := [vI (σ1.1 (8, 0, 0) 7)]) (σ' := σ1) fl5_ok [(30, .aload_n 0), (31, .getfield 159)] (by decide +kernel) rfl rfl ?_
      refine g_if_eq (off := 5) (tgt := 39) (by decide +kernel) (by decide) (fun zc34 => ?_) (fun zc34 => ?_)
      · rw [h7σ1] at zc34
        refine g_blk (pc' := 40) (loc' := [some (vR (8, 0, 0)), none]) (st' := [vR (8, 0, 0)]) (σ' := σ1) fl5_ok [(39, .aload_n 0)] (by decide +kernel) rfl rfl ?_
        refine g_callVp (8, 0, 0) [] [] vl_RX5_163 mi_X5_next (c_X5_next l (s := s) h6σ1 ((hkσ1 5 (by decide) (by decide)).trans h5) hPσ1 (by omega)) rfl rfl rfl rfl ⟨Nat.le_of_ble_eq_true rfl, Nat.le_of_ble_eq_true rfl⟩ rfl (Nat.le_of_ble_eq_true rfl) (by decide +kernel) ?_
        refine g_blk (pc' := 57) (loc' := [some (vR (8, 0, 0)), some (vI ((P.2 s) - (48 : Int32)))]) (st' := []) (σ' := (upd2 σ1.1 (8, 0, 0) 6 ((σ1.1 (8, 0, 0) 6) + (1 : Int32)), σ1.2)) fl5_ok [(43, .bipush 48), (45, .isub), (46, .istore_n 1), (47, .aload_n 0), (48, .dup), (49, .getfield 156), (52, .iconst 1), (53, .iadd), (54, .putfield 156)] (by decide +kernel) rfl rfl ?_
        generalize hσ2 : ((upd2 σ1.1 (8, 0, 0) 6 ((σ1.1 (8, 0, 0) 6) + (1 : Int32)), σ1.2) : Sg) = σ2
        obtain ⟨pσ2, qσ2, rσ2⟩ := f8 hσ2
        rw [h6σ1, nI_1] at pσ2
        have h6σ2 : σ2.1 (8, 0, 0) 6 = nI (s + 1) := pσ2
        have h7σ2 : σ2.1 (8, 0, 0) 7 = 0 := (qσ2 7 (by decide)).trans h7σ1
        have hkσ2 : ∀ k, k ≠ 6 → k ≠ 7 → σ2.1 (8, 0, 0) k = σ.1 (8, 0, 0) k := fun k h6 h7 => (qσ2 k (by omega)).trans (hkσ1 k h6 h7)
        have hFσ2 : FrA (8, 0, 0) σ σ2 := hFσ1.tr rσ2
        have hPσ2 : PTX P σ2 := ptx_fr (hFσ2.1 _ (by simp)) hP
        refine g_blk (pc' := 58) (loc' := [some (vR (8, 0, 0)), some (vI ((P.2 s) - (48 : Int32)))]) (st' := [vI ((P.2 s) - (48 : Int32))]) (σ' := σ2) fl5_ok [(57, .iload_n 1)] (by decide +kernel) rfl rfl ?_
        refine g_if_le (off := 40) (tgt := 98) (by decide +kernel) (by decide) (fun zc58 => ?_) (fun zc58 => ?_)
        · rw [dig_le zc19] at zc58
          refine g_blk (pc' := 99) (loc' := [some (vR (8, 0, 0)), some (vI ((P.2 s) - (48 : Int32)))]) (st' := [vI ((P.2 s) - (48 : Int32))]) (σ' := σ2) fl5_ok [(98, .iload_n 1)] (by decide +kernel) rfl rfl ?_
          have he : eonS P s = s + 1 := by rw [eonS, if_pos zc19, if_pos zc58]
          exact g_iret (by decide +kernel) ⟨by rw [num1 he], hFσ2, by rw [he]; exact h6σ2, by rw [wr_yes zc19]; exact h7σ2, fun k h6 h7 => (hkσ2 k h6 h7)⟩
        · rw [dig_le zc19] at zc58
          refine g_blk (pc' := 62) (loc' := [some (vR (8, 0, 0)), some (vI ((P.2 s) - (48 : Int32)))]) (st' := [vR (8, 0, 0)]) (σ' := σ2) fl5_ok [(61, .aload_n 0)] (by decide +kernel) rfl rfl ?_
          refine g_callVp (8, 0, 0) [] [] vl_RX5_163 mi_X5_next (c_X5_next l (s := (s + 1)) h6σ2 ((hkσ2 5 (by decide) (by decide)).trans h5) hPσ2 (by omega)) rfl rfl rfl rfl ⟨Nat.le_of_ble_eq_true rfl, Nat.le_of_ble_eq_true rfl⟩ rfl (Nat.le_of_ble_eq_true rfl) (by decide +kernel) ?_
          refine g_blk (pc' := 69) (loc' := [some (vR (8, 0, 0)), some (vI ((P.2 s) - (48 : Int32)))]) (st' := [vI (57 : Int32), vI (48 : Int32), vI (P.2 (s + 1))]) (σ' := σ2) fl5_ok [(65, .bipush 48), (67, .bipush 57)] (by decide +kernel) rfl rfl ?_
          refine g_callSp [vI (P.2 (s + 1)), vI (48 : Int32), vI (57 : Int32)] [] sl_RX5_29 mi_X5_in (c_X5_in' l (P.2 (s + 1)) (48 : Int32) (57 : Int32)) rfl ⟨Nat.le_of_ble_eq_true rfl, Nat.le_of_ble_eq_true rfl⟩ rfl (Nat.le_of_ble_eq_true rfl) (by decide +kernel) ?_
          refine g_if_eq (off := 26) (tgt := 98) (by decide +kernel) (by decide) (fun zc72 => ?_) (fun zc72 => ?_)
          · refine g_blk (pc' := 99) (loc' := [some (vR (8, 0, 0)), some (vI ((P.2 s) - (48 : Int32)))]) (st' := [vI ((P.2 s) - (48 : Int32))]) (σ' := σ2) fl5_ok [(98, .iload_n 1)] (by decide +kernel) rfl rfl ?_
            have he : eonS P s = s + 1 := by rw [eonS, if_pos zc19, if_neg zc58, if_pos zc72]
            exact g_iret (by decide +kernel) ⟨by rw [num1 he], hFσ2, by rw [he]; exact h6σ2, by rw [wr_yes zc19]; exact h7σ2, fun k h6 h7 => (hkσ2 k h6 h7)⟩
          · refine g_blk (pc' := 80) (loc' := [some (vR (8, 0, 0)), some (vI ((P.2 s) - (48 : Int32)))]) (st' := [vR (8, 0, 0), vI ((10 : Int32) * ((P.2 s) - (48 : Int32)))]) (σ' := σ2) fl5_ok [(75, .bipush 10), (77, .iload_n 1), (78, .imul), (79, .aload_n 0)] (by decide +kernel) rfl rfl ?_
            refine g_callVp (8, 0, 0) [] [vI ((10 : Int32) * ((P.2 s) - (48 : Int32)))] vl_RX5_163 mi_X5_next (c_X5_next l (s := (s + 1)) h6σ2 ((hkσ2 5 (by decide) (by decide)).trans h5) hPσ2 (by omega)) rfl rfl rfl rfl ⟨Nat.le_of_ble_eq_true rfl, Nat.le_of_ble_eq_true rfl⟩ rfl (Nat.le_of_ble_eq_true rfl) (by decide +kernel) ?_
            refine g_blk (pc' := 98) (loc' := [some (vR (8, 0, 0)), some (vI ((((10 : Int32) * ((P.2 s) - (48 : Int32))) + (P.2 (s + 1))) - (48 : Int32)))]) (st' := []) (σ' := (upd2 σ2.1 (8, 0, 0) 6 ((σ2.1 (8, 0, 0) 6) + (1 : Int32)), σ2.2)) fl5_ok [(83, .iadd), (84, .bipush 48), (86, .isub), (87, .istore_n 1), (88, .aload_n 0), (89, .dup), (90, .getfield 156), (93, .iconst 1), (94, .iadd), (95, .putfield 156)] (by decide +kernel) rfl rfl ?_
            generalize hσ3 : ((upd2 σ2.1 (8, 0, 0) 6 ((σ2.1 (8, 0, 0) 6) + (1 : Int32)), σ2.2) : Sg) = σ3
            obtain ⟨pσ3, qσ3, rσ3⟩ := f8 hσ3
            rw [h6σ2, nI_1] at pσ3
            have h6σ3 : σ3.1 (8, 0, 0) 6 = nI (s + 2) := pσ3
            have h7σ3 : σ3.1 (8, 0, 0) 7 = 0 := (qσ3 7 (by decide)).trans h7σ2
            have hkσ3 : ∀ k, k ≠ 6 → k ≠ 7 → σ3.1 (8, 0, 0) k = σ.1 (8, 0, 0) k := fun k h6 h7 => (qσ3 k (by omega)).trans (hkσ2 k h6 h7)
            have hFσ3 : FrA (8, 0, 0) σ σ3 := hFσ2.tr rσ3
            have hPσ3 : PTX P σ3 := ptx_fr (hFσ3.1 _ (by simp)) hP
            refine g_blk (pc' := 99) (loc' := [some (vR (8, 0, 0)), some (vI ((((10 : Int32) * ((P.2 s) - (48 : Int32))) + (P.2 (s + 1))) - (48 : Int32)))]) (st' := [vI ((((10 : Int32) * ((P.2 s) - (48 : Int32))) + (P.2 (s + 1))) - (48 : Int32))]) (σ' := σ3) fl5_ok [(98, .iload_n 1)] (by decide +kernel) rfl rfl ?_
            have he : eonS P s = s + 2 := by rw [eonS, if_pos zc19, if_neg zc58, if_neg zc72]
            exact g_iret (by decide +kernel) ⟨by rw [num2 he], hFσ3, by rw [he]; exact h6σ3, by rw [wr_yes zc19]; exact h7σ3, fun k h6 h7 => (hkσ3 k h6 h7)⟩
      · rw [h7σ1] at zc34
        exact absurd rfl zc34
    · refine g_blk (pc' := 30) (loc' := [some (vR (8, 0, 0)), none]) (st' := []) (σ' := (upd2 σ.1 (8, 0, 0) 7 (1 : Int32), σ.2)) fl5_ok [(22, .iconst 1), (23, .goto 4), (27, .putfield 159)] (by decide +kernel) rfl rfl ?_
      generalize hσ4 : ((upd2 σ.1 (8, 0, 0) 7 (1 : Int32), σ.2) : Sg) = σ4
      obtain ⟨pσ4, qσ4, rσ4⟩ := f8 hσ4
      have h6σ4 : σ4.1 (8, 0, 0) 6 = nI s := (qσ4 6 (by decide)).trans h6
      have h7σ4 : σ4.1 (8, 0, 0) 7 = 1 := pσ4
      have hkσ4 : ∀ k, k ≠ 6 → k ≠ 7 → σ4.1 (8, 0, 0) k = σ.1 (8, 0, 0) k := fun k h6 h7 => (qσ4 k (by omega)).trans rfl
      have hFσ4 : FrA (8, 0, 0) σ σ4 := rσ4
      have hPσ4 : PTX P σ4 := ptx_fr (hFσ4.1 _ (by simp)) hP
      refine g_blk (pc' := 34) (loc' := [some (vR (8, 0, 0)), none]) (st' := [vI (σ4.1 (8, 0, 0) 7)]) (σ' := σ4) fl5_ok [(30, .aload_n 0), (31, .getfield 159)] (by decide +kernel) rfl rfl ?_
      refine g_if_eq (off := 5) (tgt := 39) (by decide +kernel) (by decide) (fun zc34 => ?_) (fun zc34 => ?_)
      · rw [h7σ4] at zc34
        exact absurd zc34 (by decide)
      · rw [h7σ4] at zc34
        refine g_blk (pc' := 38) (loc' := [some (vR (8, 0, 0)), none]) (st' := [vI (0 : Int32)]) (σ' := σ4) fl5_ok [(37, .iconst 0)] (by decide +kernel) rfl rfl ?_
        exact g_iret (by decide +kernel) ⟨by rw [num0 (eon_no zc19)], hFσ4, by rw [eon_no zc19]; exact h6σ4, by rw [wr_no zc19]; exact h7σ4, fun k h6 h7 => (hkσ4 k h6 h7)⟩
def RR (T : TV) (σ : Sg) : Prop := ∀ r, r < T.1 → σ.1 (9, 4, 0) (2 * r) = T.2 r 0 ∧ σ.1 (9, 4, 0) (2 * r + 1) = T.2 r 1
def FrR (σ σ' : Sg) : Prop := (∀ p, p ≠ (8, 0, 0) → p ≠ (9, 4, 0) → σ'.1 p = σ.1 p) ∧ σ'.2 = σ.2 ∧ ∀ k, k ≠ 6 → k ≠ 7 → k ≠ 8 → k ≠ 10 → σ'.1 (8, 0, 0) k = σ.1 (8, 0, 0) k
theorem FrR.rf {σ : Sg} : FrR σ σ := ⟨fun _ _ _ => rfl, rfl, fun _ _ _ _ _ => rfl⟩
theorem FrR.tr {σ σ1 σ2 : Sg} (a : FrR σ σ1) (b : FrR σ1 σ2) : FrR σ σ2 := ⟨fun p h1 h2 => (b.1 p h1 h2).trans (a.1 p h1 h2), b.2.1.trans a.2.1, fun k h1 h2 h3 h4 => (b.2.2 k h1 h2 h3 h4).trans (a.2.2 k h1 h2 h3 h4)⟩
-- where a reading stands: the spot, whether it is wrong, the lesser one, the parts
def TS (P : PV) (σ0 σ : Sg) (s : Nat) (w e : Int32) (T : TV) : Prop :=
  σ.1 (8, 0, 0) 6 = nI s ∧ σ.1 (8, 0, 0) 7 = w ∧ σ.1 (8, 0, 0) 8 = e ∧ σ.1 (8, 0, 0) 10 = nI T.1 ∧ RR T σ ∧ PTX P σ ∧ σ.1 (8, 0, 0) 5 = nI P.1 ∧ FrR σ0 σ
theorem ts_tf {P : PV} {σ0 σ σ' : Sg} {s s' : Nat} {w w' e : Int32} {T : TV} (h : TS P σ0 σ s w e T) (t : TF σ σ' s' w') : TS P σ0 σ' s' w' e T := by
  obtain ⟨a1, a2, a3, a4, a5, a6, a7, a8⟩ := h
  obtain ⟨t1, t2, t3, t4⟩ := t
  refine ⟨t2, t3, (t4 8 (by decide) (by decide)).trans a3, (t4 10 (by decide) (by decide)).trans a4, fun r hr => ?_, ptx_fr (t1.1 _ (by simp)) a6, (t4 5 (by decide) (by decide)).trans a7, a8.tr ⟨fun p h1 h2 => t1.1 p h1, t1.2, fun k h1 h2 h3 h4 => t4 k h1 h2⟩⟩
  rw [t1.1 _ (by simp)]
  exact a5 r hr
theorem ts_6 {P : PV} {σ0 σ σ' : Sg} {s s' : Nat} {w e : Int32} {T : TV} (h : TS P σ0 σ s w e T) (t : (upd2 σ.1 (8, 0, 0) 6 (nI s'), σ.2) = σ') : TS P σ0 σ' s' w e T := by
  obtain ⟨p, q, r⟩ := f8 t
  exact ts_tf h ⟨r, p, (q 7 (by decide)).trans h.2.1, fun k h6 _ => q k h6⟩
theorem ts_8 {P : PV} {σ0 σ σ' : Sg} {s : Nat} {w e e' : Int32} {T : TV} (h : TS P σ0 σ s w e T) (t : (upd2 σ.1 (8, 0, 0) 8 e', σ.2) = σ') : TS P σ0 σ' s w e' T := by
  obtain ⟨p, q, r⟩ := f8 t
  obtain ⟨a1, a2, a3, a4, a5, a6, a7, a8⟩ := h
  refine ⟨(q 6 (by decide)).trans a1, (q 7 (by decide)).trans a2, p, (q 10 (by decide)).trans a4, fun j hj => ?_, ptx_fr (r.1 _ (by simp)) a6, (q 5 (by decide)).trans a7, a8.tr ⟨fun p h1 h2 => r.1 p h1, r.2, fun k h1 h2 h3 h4 => q k h3⟩⟩
  rw [r.1 _ (by simp)]
  exact a5 j hj
theorem addP_val {T : TV} {a b : Int32} (h : T.1 < 30) : (addP T a b).1 = T.1 + 1 ∧ ∀ r c, (addP T a b).2 r c = if r = T.1 ∧ c = 1 then b else if r = T.1 ∧ c = 0 then a else T.2 r c := by
  have e1 : twr 2 (tapp T) (nI T.1) (nI 0) a = (T.1 + 1, fun r c => if r = T.1 ∧ c = 0 then a else T.2 r c) := twr_nI (w := 2) (T := tapp T) (r := T.1) (c := 0) (v := a) (Nat.lt_succ_self _) (by decide) (by omega) (by decide)
  have e2 : addP T a b = twr 2 (twr 2 (tapp T) (nI T.1) (nI 0) a) (nI T.1) (nI 1) b := rfl
  rw [e2, e1, twr_nI (w := 2) (r := T.1) (c := 1) (Nat.lt_succ_self _) (by decide) (by omega) (by decide)]
  exact ⟨rfl, fun r c => rfl⟩
theorem ts_add {P : PV} {σ0 σ σ1 σ2 σ3 : Sg} {s : Nat} {w e a b : Int32} {T : TV} (h : TS P σ0 σ s w e T) (hT : T.1 < 30) (e1 : (upd2 σ.1 (9, 4, 0) (2 * T.1) a, σ.2) = σ1) (e2 : (upd2 σ1.1 (9, 4, 0) (2 * T.1 + 1) b, σ1.2) = σ2) (e3 : (upd2 σ2.1 (8, 0, 0) 10 (nI (T.1 + 1)), σ2.2) = σ3) : TS P σ0 σ3 s w e (addP T a b) := by
  obtain ⟨p, q, r⟩ := f8 e3
  obtain ⟨a1, a2, a3, a4, a5, a6, a7, a8⟩ := h
  have h4 : σ2.1 (9, 4, 0) = upd (upd (σ.1 (9, 4, 0)) (2 * T.1) a) (2 * T.1 + 1) b := by
    rw [← e2, ← e1]
    show upd2 (upd2 σ.1 (9, 4, 0) (2 * T.1) a) (9, 4, 0) (2 * T.1 + 1) b (9, 4, 0) = _
    rw [upd2_same, upd2_same]
  have ho : ∀ p, p ≠ (9, 4, 0) → σ2.1 p = σ.1 p := fun p hp => by
    rw [← e2, ← e1]
    show upd2 (upd2 σ.1 (9, 4, 0) (2 * T.1) a) (9, 4, 0) (2 * T.1 + 1) b p = _
    rw [upd2_ne _ _ _ hp, upd2_ne _ _ _ hp]
  have h8 : σ2.1 (8, 0, 0) = σ.1 (8, 0, 0) := ho _ (by simp)
  have h2 : σ2.2 = σ.2 := by rw [← e2, ← e1]
  obtain ⟨v1, v2⟩ := addP_val (T := T) (a := a) (b := b) hT
  refine ⟨by rw [q 6 (by decide), h8]; exact a1, by rw [q 7 (by decide), h8]; exact a2, by rw [q 8 (by decide), h8]; exact a3, by rw [p, v1], fun j hj => ?_, ptx_fr (by rw [r.1 _ (by simp), ho _ (by simp)]) a6, by rw [q 5 (by decide), h8]; exact a7, a8.tr ⟨fun p h1 h2 => by rw [r.1 p h1, ho p h2], r.2.trans h2, fun k k1 k2 k3 k4 => by rw [q k k4, h8]⟩⟩
  rw [v1] at hj
  rw [r.1 _ (by simp), h4, v2, v2]
  by_cases hjT : j = T.1
  · subst hjT
    rw [up_ne (by omega), up_at, up_at]
    simp
  · rw [up_ne (by omega), up_ne (by omega), up_ne (by omega), up_ne (by omega)]
    simp only [hjT, false_and, if_false]
    exact a5 j (by omega)
def tkS (P : PV) (s : Nat) (e : Int32) (T : TV) : (Nat × Int32) × (Int32 × TV) :=
  if eonS P s = s then ((s, 1), (e, T)) else
  if ¬ P.2 (eonS P s) = 45 then ((eonS P s, 0), (e, addP T (numS P s (eonS P s)) (numS P s (eonS P s)))) else
  if eonS P (eonS P s + 1) = eonS P s + 1 then ((eonS P s + 1, 1), (e, T)) else
  ((eonS P (eonS P s + 1), 0), (if numS P s (eonS P s) ≤ numS P (eonS P s + 1) (eonS P (eonS P s + 1)) then e else if 0 ≤ e then e else nI (eonS P s + 1), addP T (numS P s (eonS P s)) (numS P (eonS P s + 1) (eonS P (eonS P s + 1)))))
set_option maxHeartbeats 2000000 in
theorem c_X5_takePart (l : Launch) {σ : Sg} {P : PV} {σ0 : Sg} {s : Nat} {e : Int32} {T : TV} (hTσ : TS P σ0 σ s 0 e T) (hs : s < 2 ^ 20) (hT30 : eonS P s = s ∨ T.1 < 30) : Con l 2 yX5_takePart cX5_takePart 4 none [vR (8, 0, 0)] (σ) (fun o σ' => o = none ∧ TS P σ0 σ' (tkS P s e T).1.1 (tkS P s e T).1.2 (tkS P s e T).2.1 (tkS P s e T).2.2) := by
  have hb1 := eon_le P s
  have hb2 := eon_le P (eonS P s + 1)
  refine con_of pn_X5_takePart (Nat.le_of_ble_eq_true rfl) (fun hPK hok => ?_)
  show G l (Rm 2) RX5 cX5_takePart 4 none _ 0 [some (vR (8, 0, 0)), none, none, none] [] (σ)
  refine g_blk (pc' := 1) (loc' := [some (vR (8, 0, 0)), none, none, none]) (st' := [vR (8, 0, 0)]) (σ' := σ) fl5_ok [(0, .aload_n 0)] (by decide +kernel) rfl rfl ?_
  refine g_callV (8, 0, 0) [] [] vl_RX5_166 mi_X5_takeNumber (c_X5_takeNumber l (P := P) (s := s) hTσ.1 hTσ.2.2.2.2.2.2.1 hTσ.2.2.2.2.2.1 (by omega) hTσ.2.1) rfl rfl rfl rfl ⟨Nat.le_of_ble_eq_true rfl, Nat.le_of_ble_eq_true rfl⟩ rfl (Nat.le_of_ble_eq_true rfl) (by decide +kernel) (fun o τ1 hP => ?_)
  obtain ⟨rfl, hfτ1⟩ := hP
  have hTτ1 := ts_tf hTσ hfτ1
  refine g_blk (pc' := 11) (loc' := [some (vR (8, 0, 0)), some (vI (numS P s (eonS P s))), some (vI (numS P s (eonS P s))), none]) (st' := [vI (τ1.1 (8, 0, 0) 7)]) (σ' := τ1) fl5_ok [(4, .istore_n 1), (5, .iload_n 1), (6, .istore_n 2), (7, .aload_n 0), (8, .getfield 159)] (by decide +kernel) rfl rfl ?_
  refine g_if_ne (off := 63) (tgt := 74) (by decide +kernel) (by decide) (fun zc11 => ?_) (fun zc11 => ?_)
  · rw [hTτ1.2.1] at zc11
    replace zc11 := wr1 zc11
    refine g_blk (pc' := 78) (loc' := [some (vR (8, 0, 0)), some (vI (numS P s (eonS P s))), some (vI (numS P s (eonS P s))), none]) (st' := [vI (τ1.1 (8, 0, 0) 7)]) (σ' := τ1) fl5_ok [(74, .aload_n 0), (75, .getfield 159)] (by decide +kernel) rfl rfl ?_
    refine g_if_ne (off := 39) (tgt := 117) (by decide +kernel) (by decide) (fun zc78 => ?_) (fun zc78 => ?_)
    · rw [hTτ1.2.1] at zc78
      refine g_vret (by decide +kernel) ⟨rfl, ?_⟩
      have hfin := hTτ1
      rw [show wrS P s = 1 by rw [wrS, if_pos zc11], zc11] at hfin
      rw [tkS, if_pos zc11]
      exact hfin
    · rw [hTτ1.2.1] at zc78
      exact absurd zc11 (wr0 zc78)
  · rw [hTτ1.2.1] at zc11
    rw [zc11] at hTτ1
    replace zc11 := wr0 zc11
    refine g_blk (pc' := 15) (loc' := [some (vR (8, 0, 0)), some (vI (numS P s (eonS P s))), some (vI (numS P s (eonS P s))), none]) (st' := [vR (8, 0, 0)]) (σ' := τ1) fl5_ok [(14, .aload_n 0)] (by decide +kernel) rfl rfl ?_
    refine g_callVp (8, 0, 0) [] [] vl_RX5_163 mi_X5_next (c_X5_next l (P := P) (s := (eonS P s)) hTτ1.1 hTτ1.2.2.2.2.2.2.1 hTτ1.2.2.2.2.2.1 (by omega)) rfl rfl rfl rfl ⟨Nat.le_of_ble_eq_true rfl, Nat.le_of_ble_eq_true rfl⟩ rfl (Nat.le_of_ble_eq_true rfl) (by decide +kernel) ?_
    refine g_blk (pc' := 20) (loc' := [some (vR (8, 0, 0)), some (vI (numS P s (eonS P s))), some (vI (numS P s (eonS P s))), none]) (st' := [vI (45 : Int32), vI (P.2 (eonS P s))]) (σ' := τ1) fl5_ok [(18, .bipush 45)] (by decide +kernel) rfl rfl ?_
    refine g_icmp_ne (off := 54) (tgt := 74) (by decide +kernel) (by decide) (fun zc20 => ?_) (fun zc20 => ?_)
    · refine g_blk (pc' := 78) (loc' := [some (vR (8, 0, 0)), some (vI (numS P s (eonS P s))), some (vI (numS P s (eonS P s))), none]) (st' := [vI (τ1.1 (8, 0, 0) 7)]) (σ' := τ1) fl5_ok [(74, .aload_n 0), (75, .getfield 159)] (by decide +kernel) rfl rfl ?_
      refine g_if_ne (off := 39) (tgt := 117) (by decide +kernel) (by decide) (fun zc78 => ?_) (fun zc78 => ?_)
      · rw [hTτ1.2.1] at zc78
        exact absurd rfl zc78
      · rw [hTτ1.2.1] at zc78
        refine g_blk (pc' := 92) (loc' := [some (vR (8, 0, 0)), some (vI (numS P s (eonS P s))), some (vI (numS P s (eonS P s))), none]) (st' := [vI (numS P s (eonS P s)), vI ((2 : Int32) * (τ1.1 (8, 0, 0) 10)), vR (9, 4, 0)]) (σ' := τ1) fl5_ok [(81, .aload_n 0), (82, .getfield 22), (85, .iconst 2), (86, .aload_n 0), (87, .getfield 172), (90, .imul), (91, .iload_n 1)] (by decide +kernel) rfl rfl ?_
        refine g_xst (n := 60) (k := 2 * T.1) rfl (by rw [hTτ1.2.2.2.1]; exact ix2 _) (by omega) (by decide) (by decide +kernel) ?_
        generalize hτ2 : ((upd2 τ1.1 (9, 4, 0) (2 * T.1) (numS P s (eonS P s)), τ1.2) : Sg) = τ2
        refine g_blk (pc' := 106) (loc' := [some (vR (8, 0, 0)), some (vI (numS P s (eonS P s))), some (vI (numS P s (eonS P s))), none]) (st' := [vI (numS P s (eonS P s)), vI (((2 : Int32) * (τ2.1 (8, 0, 0) 10)) + (1 : Int32)), vR (9, 4, 0)]) (σ' := τ2) fl5_ok [(93, .aload_n 0), (94, .getfield 22), (97, .iconst 2), (98, .aload_n 0), (99, .getfield 172), (102, .imul), (103, .iconst 1), (104, .iadd), (105, .iload_n 2)] (by decide +kernel) rfl rfl ?_
        refine g_xst (n := 60) (k := 2 * T.1 + 1) rfl (by rw [show τ2.1 (8, 0, 0) 10 = nI T.1 by rw [← hτ2]; exact hTτ1.2.2.2.1, ix2, nI_1]) (by omega) (by decide) (by decide +kernel) ?_
        generalize hτ3b : ((upd2 τ2.1 (9, 4, 0) (2 * T.1 + 1) (numS P s (eonS P s)), τ2.2) : Sg) = τ3
        have hτ3a := hτ2
        refine g_blk (pc' := 117) (loc' := [some (vR (8, 0, 0)), some (vI (numS P s (eonS P s))), some (vI (numS P s (eonS P s))), none]) (st' := []) (σ' := (upd2 τ3.1 (8, 0, 0) 10 ((τ3.1 (8, 0, 0) 10) + (1 : Int32)), τ3.2)) fl5_ok [(107, .aload_n 0), (108, .dup), (109, .getfield 172), (112, .iconst 1), (113, .iadd), (114, .putfield 172)] (by decide +kernel) rfl rfl ?_
        generalize hσ4 : ((upd2 τ3.1 (8, 0, 0) 10 ((τ3.1 (8, 0, 0) 10) + (1 : Int32)), τ3.2) : Sg) = σ4
        rw [show τ3.1 (8, 0, 0) 10 = nI T.1 by rw [← hτ3b, ← hτ3a]; exact hTτ1.2.2.2.1, nI_1] at hσ4
        have hTσ4 := ts_add hTτ1 (by omega) hτ3a hτ3b hσ4
        refine g_vret (by decide +kernel) ⟨rfl, ?_⟩
        have hfin := hTσ4
        rw [tkS, if_neg zc11, if_pos zc20]
        exact hfin
    · refine g_blk (pc' := 33) (loc' := [some (vR (8, 0, 0)), some (vI (numS P s (eonS P s))), some (vI (numS P s (eonS P s))), none]) (st' := []) (σ' := (upd2 τ1.1 (8, 0, 0) 6 ((τ1.1 (8, 0, 0) 6) + (1 : Int32)), τ1.2)) fl5_ok [(23, .aload_n 0), (24, .dup), (25, .getfield 156), (28, .iconst 1), (29, .iadd), (30, .putfield 156)] (by decide +kernel) rfl rfl ?_
      generalize hσ5 : ((upd2 τ1.1 (8, 0, 0) 6 ((τ1.1 (8, 0, 0) 6) + (1 : Int32)), τ1.2) : Sg) = σ5
      rw [hTτ1.1, nI_1] at hσ5
      have hTσ5 := ts_6 hTτ1 hσ5
      refine g_blk (pc' := 39) (loc' := [some (vR (8, 0, 0)), some (vI (numS P s (eonS P s))), some (vI (numS P s (eonS P s))), some (vI (σ5.1 (8, 0, 0) 6))]) (st' := [vR (8, 0, 0)]) (σ' := σ5) fl5_ok [(33, .aload_n 0), (34, .getfield 156), (37, .istore_n 3), (38, .aload_n 0)] (by decide +kernel) rfl rfl ?_
      refine g_callV (8, 0, 0) [] [] vl_RX5_166 mi_X5_takeNumber (c_X5_takeNumber l (P := P) (s := ((eonS P s) + 1)) hTσ5.1 hTσ5.2.2.2.2.2.2.1 hTσ5.2.2.2.2.2.1 (by omega) hTσ5.2.1) rfl rfl rfl rfl ⟨Nat.le_of_ble_eq_true rfl, Nat.le_of_ble_eq_true rfl⟩ rfl (Nat.le_of_ble_eq_true rfl) (by decide +kernel) (fun o τ6 hP => ?_)
      obtain ⟨rfl, hfτ6⟩ := hP
      have hTτ6 := ts_tf hTσ5 hfτ6
      refine g_blk (pc' := 48) (loc' := [some (vR (8, 0, 0)), some (vI (numS P s (eonS P s))), some (vI (numS P ((eonS P s) + 1) (eonS P ((eonS P s) + 1)))), some (vI (σ5.1 (8, 0, 0) 6))]) (st' := [vI (τ6.1 (8, 0, 0) 7), vR (8, 0, 0)]) (σ' := τ6) fl5_ok [(42, .istore_n 2), (43, .aload_n 0), (44, .aload_n 0), (45, .getfield 159)] (by decide +kernel) rfl rfl ?_
      refine g_if_ne (off := 19) (tgt := 67) (by decide +kernel) (by decide) (fun zc48 => ?_) (fun zc48 => ?_)
      · rw [hTτ6.2.1] at zc48
        replace zc48 := wr1 zc48
        refine g_blk (pc' := 74) (loc' := [some (vR (8, 0, 0)), some (vI (numS P s (eonS P s))), some (vI (numS P ((eonS P s) + 1) (eonS P ((eonS P s) + 1)))), some (vI (σ5.1 (8, 0, 0) 6))]) (st' := []) (σ' := (upd2 τ6.1 (8, 0, 0) 8 (τ6.1 (8, 0, 0) 8), τ6.2)) fl5_ok [(67, .aload_n 0), (68, .getfield 169), (71, .putfield 169)] (by decide +kernel) rfl rfl ?_
        generalize hσ7 : ((upd2 τ6.1 (8, 0, 0) 8 (τ6.1 (8, 0, 0) 8), τ6.2) : Sg) = σ7
        first | rw [hTτ6.2.2.1] at hσ7 | rw [hTσ5.1] at hσ7
        have hTσ7 := ts_8 hTτ6 hσ7
        refine g_blk (pc' := 78) (loc' := [some (vR (8, 0, 0)), some (vI (numS P s (eonS P s))), some (vI (numS P ((eonS P s) + 1) (eonS P ((eonS P s) + 1)))), some (vI (σ5.1 (8, 0, 0) 6))]) (st' := [vI (σ7.1 (8, 0, 0) 7)]) (σ' := σ7) fl5_ok [(74, .aload_n 0), (75, .getfield 159)] (by decide +kernel) rfl rfl ?_
        refine g_if_ne (off := 39) (tgt := 117) (by decide +kernel) (by decide) (fun zc78 => ?_) (fun zc78 => ?_)
        · rw [hTσ7.2.1] at zc78
          refine g_vret (by decide +kernel) ⟨rfl, ?_⟩
          have hfin := hTσ7
          rw [show wrS P (eonS P s + 1) = 1 by rw [wrS, if_pos zc48], zc48] at hfin
          rw [tkS, if_neg zc11, if_neg (not_not_intro zc20), if_pos zc48]
          exact hfin
        · rw [hTσ7.2.1] at zc78
          exact absurd zc48 (wr0 zc78)
      · rw [hTτ6.2.1] at zc48
        replace zc48 := wr0 zc48
        refine g_blk (pc' := 53) (loc' := [some (vR (8, 0, 0)), some (vI (numS P s (eonS P s))), some (vI (numS P ((eonS P s) + 1) (eonS P ((eonS P s) + 1)))), some (vI (σ5.1 (8, 0, 0) 6))]) (st' := [vI (numS P s (eonS P s)), vI (numS P ((eonS P s) + 1) (eonS P ((eonS P s) + 1))), vR (8, 0, 0)]) (σ' := τ6) fl5_ok [(51, .iload_n 2), (52, .iload_n 1)] (by decide +kernel) rfl rfl ?_
        refine g_icmp_ge (off := 14) (tgt := 67) (by decide +kernel) (by decide) (fun zc53 => ?_) (fun zc53 => ?_)
        · refine g_blk (pc' := 74) (loc' := [some (vR (8, 0, 0)), some (vI (numS P s (eonS P s))), some (vI (numS P ((eonS P s) + 1) (eonS P ((eonS P s) + 1)))), some (vI (σ5.1 (8, 0, 0) 6))]) (st' := []) (σ' := (upd2 τ6.1 (8, 0, 0) 8 (τ6.1 (8, 0, 0) 8), τ6.2)) fl5_ok [(67, .aload_n 0), (68, .getfield 169), (71, .putfield 169)] (by decide +kernel) rfl rfl ?_
          generalize hσ8 : ((upd2 τ6.1 (8, 0, 0) 8 (τ6.1 (8, 0, 0) 8), τ6.2) : Sg) = σ8
          first | rw [hTτ6.2.2.1] at hσ8 | rw [hTσ5.1] at hσ8
          have hTσ8 := ts_8 hTτ6 hσ8
          refine g_blk (pc' := 78) (loc' := [some (vR (8, 0, 0)), some (vI (numS P s (eonS P s))), some (vI (numS P ((eonS P s) + 1) (eonS P ((eonS P s) + 1)))), some (vI (σ5.1 (8, 0, 0) 6))]) (st' := [vI (σ8.1 (8, 0, 0) 7)]) (σ' := σ8) fl5_ok [(74, .aload_n 0), (75, .getfield 159)] (by decide +kernel) rfl rfl ?_
          refine g_if_ne (off := 39) (tgt := 117) (by decide +kernel) (by decide) (fun zc78 => ?_) (fun zc78 => ?_)
          · rw [hTσ8.2.1] at zc78
            exact absurd (wr1 zc78) zc48
          · rw [hTσ8.2.1] at zc78
            refine g_blk (pc' := 92) (loc' := [some (vR (8, 0, 0)), some (vI (numS P s (eonS P s))), some (vI (numS P ((eonS P s) + 1) (eonS P ((eonS P s) + 1)))), some (vI (σ5.1 (8, 0, 0) 6))]) (st' := [vI (numS P s (eonS P s)), vI ((2 : Int32) * (σ8.1 (8, 0, 0) 10)), vR (9, 4, 0)]) (σ' := σ8) fl5_ok [(81, .aload_n 0), (82, .getfield 22), (85, .iconst 2), (86, .aload_n 0), (87, .getfield 172), (90, .imul), (91, .iload_n 1)] (by decide +kernel) rfl rfl ?_
            refine g_xst (n := 60) (k := 2 * T.1) rfl (by rw [hTσ8.2.2.2.1]; exact ix2 _) (by omega) (by decide) (by decide +kernel) ?_
            generalize hτ9 : ((upd2 σ8.1 (9, 4, 0) (2 * T.1) (numS P s (eonS P s)), σ8.2) : Sg) = τ9
            refine g_blk (pc' := 106) (loc' := [some (vR (8, 0, 0)), some (vI (numS P s (eonS P s))), some (vI (numS P ((eonS P s) + 1) (eonS P ((eonS P s) + 1)))), some (vI (σ5.1 (8, 0, 0) 6))]) (st' := [vI (numS P ((eonS P s) + 1) (eonS P ((eonS P s) + 1))), vI (((2 : Int32) * (τ9.1 (8, 0, 0) 10)) + (1 : Int32)), vR (9, 4, 0)]) (σ' := τ9) fl5_ok [(93, .aload_n 0), (94, .getfield 22), (97, .iconst 2), (98, .aload_n 0), (99, .getfield 172), (102, .imul), (103, .iconst 1), (104, .iadd), (105, .iload_n 2)] (by decide +kernel) rfl rfl ?_
            refine g_xst (n := 60) (k := 2 * T.1 + 1) rfl (by rw [show τ9.1 (8, 0, 0) 10 = nI T.1 by rw [← hτ9]; exact hTσ8.2.2.2.1, ix2, nI_1]) (by omega) (by decide) (by decide +kernel) ?_
            generalize hτ10b : ((upd2 τ9.1 (9, 4, 0) (2 * T.1 + 1) (numS P ((eonS P s) + 1) (eonS P ((eonS P s) + 1))), τ9.2) : Sg) = τ10
            have hτ10a := hτ9
            refine g_blk (pc' := 117) (loc' := [some (vR (8, 0, 0)), some (vI (numS P s (eonS P s))), some (vI (numS P ((eonS P s) + 1) (eonS P ((eonS P s) + 1)))), some (vI (σ5.1 (8, 0, 0) 6))]) (st' := []) (σ' := (upd2 τ10.1 (8, 0, 0) 10 ((τ10.1 (8, 0, 0) 10) + (1 : Int32)), τ10.2)) fl5_ok [(107, .aload_n 0), (108, .dup), (109, .getfield 172), (112, .iconst 1), (113, .iadd), (114, .putfield 172)] (by decide +kernel) rfl rfl ?_
            generalize hσ11 : ((upd2 τ10.1 (8, 0, 0) 10 ((τ10.1 (8, 0, 0) 10) + (1 : Int32)), τ10.2) : Sg) = σ11
            rw [show τ10.1 (8, 0, 0) 10 = nI T.1 by rw [← hτ10b, ← hτ10a]; exact hTσ8.2.2.2.1, nI_1] at hσ11
            have hTσ11 := ts_add hTσ8 (by omega) hτ10a hτ10b hσ11
            refine g_vret (by decide +kernel) ⟨rfl, ?_⟩
            have hfin := hTσ11
            rw [show wrS P (eonS P s + 1) = 0 by rw [wrS, if_neg zc48]] at hfin
            rw [tkS, if_neg zc11, if_neg (not_not_intro zc20), if_neg zc48, if_pos zc53]
            exact hfin
        · refine g_blk (pc' := 60) (loc' := [some (vR (8, 0, 0)), some (vI (numS P s (eonS P s))), some (vI (numS P ((eonS P s) + 1) (eonS P ((eonS P s) + 1)))), some (vI (σ5.1 (8, 0, 0) 6))]) (st' := [vI (τ6.1 (8, 0, 0) 8), vR (8, 0, 0)]) (σ' := τ6) fl5_ok [(56, .aload_n 0), (57, .getfield 169)] (by decide +kernel) rfl rfl ?_
          refine g_if_ge (off := 7) (tgt := 67) (by decide +kernel) (by decide) (fun zc60 => ?_) (fun zc60 => ?_)
          · rw [hTτ6.2.2.1] at zc60
            refine g_blk (pc' := 74) (loc' := [some (vR (8, 0, 0)), some (vI (numS P s (eonS P s))), some (vI (numS P ((eonS P s) + 1) (eonS P ((eonS P s) + 1)))), some (vI (σ5.1 (8, 0, 0) 6))]) (st' := []) (σ' := (upd2 τ6.1 (8, 0, 0) 8 (τ6.1 (8, 0, 0) 8), τ6.2)) fl5_ok [(67, .aload_n 0), (68, .getfield 169), (71, .putfield 169)] (by decide +kernel) rfl rfl ?_
            generalize hσ12 : ((upd2 τ6.1 (8, 0, 0) 8 (τ6.1 (8, 0, 0) 8), τ6.2) : Sg) = σ12
            first | rw [hTτ6.2.2.1] at hσ12 | rw [hTσ5.1] at hσ12
            have hTσ12 := ts_8 hTτ6 hσ12
            refine g_blk (pc' := 78) (loc' := [some (vR (8, 0, 0)), some (vI (numS P s (eonS P s))), some (vI (numS P ((eonS P s) + 1) (eonS P ((eonS P s) + 1)))), some (vI (σ5.1 (8, 0, 0) 6))]) (st' := [vI (σ12.1 (8, 0, 0) 7)]) (σ' := σ12) fl5_ok [(74, .aload_n 0), (75, .getfield 159)] (by decide +kernel) rfl rfl ?_
            refine g_if_ne (off := 39) (tgt := 117) (by decide +kernel) (by decide) (fun zc78 => ?_) (fun zc78 => ?_)
            · rw [hTσ12.2.1] at zc78
              exact absurd (wr1 zc78) zc48
            · rw [hTσ12.2.1] at zc78
              refine g_blk (pc' := 92) (loc' := [some (vR (8, 0, 0)), some (vI (numS P s (eonS P s))), some (vI (numS P ((eonS P s) + 1) (eonS P ((eonS P s) + 1)))), some (vI (σ5.1 (8, 0, 0) 6))]) (st' := [vI (numS P s (eonS P s)), vI ((2 : Int32) * (σ12.1 (8, 0, 0) 10)), vR (9, 4, 0)]) (σ' := σ12) fl5_ok [(81, .aload_n 0), (82, .getfield 22), (85, .iconst 2), (86, .aload_n 0), (87, .getfield 172), (90, .imul), (91, .iload_n 1)] (by decide +kernel) rfl rfl ?_
              refine g_xst (n := 60) (k := 2 * T.1) rfl (by rw [hTσ12.2.2.2.1]; exact ix2 _) (by omega) (by decide) (by decide +kernel) ?_
              generalize hτ13 : ((upd2 σ12.1 (9, 4, 0) (2 * T.1) (numS P s (eonS P s)), σ12.2) : Sg) = τ13
              refine g_blk (pc' := 106) (loc' := [some (vR (8, 0, 0)), some (vI (numS P s (eonS P s))), some (vI (numS P ((eonS P s) + 1) (eonS P ((eonS P s) + 1)))), some (vI (σ5.1 (8, 0, 0) 6))]) (st' := [vI (numS P ((eonS P s) + 1) (eonS P ((eonS P s) + 1))), vI (((2 : Int32) * (τ13.1 (8, 0, 0) 10)) + (1 : Int32)), vR (9, 4, 0)]) (σ' := τ13) fl5_ok [(93, .aload_n 0), (94, .getfield 22), (97, .iconst 2), (98, .aload_n 0), (99, .getfield 172), (102, .imul), (103, .iconst 1), (104, .iadd), (105, .iload_n 2)] (by decide +kernel) rfl rfl ?_
              refine g_xst (n := 60) (k := 2 * T.1 + 1) rfl (by rw [show τ13.1 (8, 0, 0) 10 = nI T.1 by rw [← hτ13]; exact hTσ12.2.2.2.1, ix2, nI_1]) (by omega) (by decide) (by decide +kernel) ?_
              generalize hτ14b : ((upd2 τ13.1 (9, 4, 0) (2 * T.1 + 1) (numS P ((eonS P s) + 1) (eonS P ((eonS P s) + 1))), τ13.2) : Sg) = τ14
              have hτ14a := hτ13
              refine g_blk (pc' := 117) (loc' := [some (vR (8, 0, 0)), some (vI (numS P s (eonS P s))), some (vI (numS P ((eonS P s) + 1) (eonS P ((eonS P s) + 1)))), some (vI (σ5.1 (8, 0, 0) 6))]) (st' := []) (σ' := (upd2 τ14.1 (8, 0, 0) 10 ((τ14.1 (8, 0, 0) 10) + (1 : Int32)), τ14.2)) fl5_ok [(107, .aload_n 0), (108, .dup), (109, .getfield 172), (112, .iconst 1), (113, .iadd), (114, .putfield 172)] (by decide +kernel) rfl rfl ?_
              generalize hσ15 : ((upd2 τ14.1 (8, 0, 0) 10 ((τ14.1 (8, 0, 0) 10) + (1 : Int32)), τ14.2) : Sg) = σ15
              rw [show τ14.1 (8, 0, 0) 10 = nI T.1 by rw [← hτ14b, ← hτ14a]; exact hTσ12.2.2.2.1, nI_1] at hσ15
              have hTσ15 := ts_add hTσ12 (by omega) hτ14a hτ14b hσ15
              refine g_vret (by decide +kernel) ⟨rfl, ?_⟩
              have hfin := hTσ15
              rw [show wrS P (eonS P s + 1) = 0 by rw [wrS, if_neg zc48]] at hfin
              rw [tkS, if_neg zc11, if_neg (not_not_intro zc20), if_neg zc48, if_neg zc53, if_pos zc60]
              exact hfin
          · rw [hTτ6.2.2.1] at zc60
            refine g_blk (pc' := 74) (loc' := [some (vR (8, 0, 0)), some (vI (numS P s (eonS P s))), some (vI (numS P ((eonS P s) + 1) (eonS P ((eonS P s) + 1)))), some (vI (σ5.1 (8, 0, 0) 6))]) (st' := []) (σ' := (upd2 τ6.1 (8, 0, 0) 8 (σ5.1 (8, 0, 0) 6), τ6.2)) fl5_ok [(63, .iload_n 3), (64, .goto 7), (71, .putfield 169)] (by decide +kernel) rfl rfl ?_
            generalize hσ16 : ((upd2 τ6.1 (8, 0, 0) 8 (σ5.1 (8, 0, 0) 6), τ6.2) : Sg) = σ16
            first | rw [hTτ6.2.2.1] at hσ16 | rw [hTσ5.1] at hσ16
            have hTσ16 := ts_8 hTτ6 hσ16
            refine g_blk (pc' := 78) (loc' := [some (vR (8, 0, 0)), some (vI (numS P s (eonS P s))), some (vI (numS P ((eonS P s) + 1) (eonS P ((eonS P s) + 1)))), some (vI (σ5.1 (8, 0, 0) 6))]) (st' := [vI (σ16.1 (8, 0, 0) 7)]) (σ' := σ16) fl5_ok [(74, .aload_n 0), (75, .getfield 159)] (by decide +kernel) rfl rfl ?_
            refine g_if_ne (off := 39) (tgt := 117) (by decide +kernel) (by decide) (fun zc78 => ?_) (fun zc78 => ?_)
            · rw [hTσ16.2.1] at zc78
              exact absurd (wr1 zc78) zc48
            · rw [hTσ16.2.1] at zc78
              refine g_blk (pc' := 92) (loc' := [some (vR (8, 0, 0)), some (vI (numS P s (eonS P s))), some (vI (numS P ((eonS P s) + 1) (eonS P ((eonS P s) + 1)))), some (vI (σ5.1 (8, 0, 0) 6))]) (st' := [vI (numS P s (eonS P s)), vI ((2 : Int32) * (σ16.1 (8, 0, 0) 10)), vR (9, 4, 0)]) (σ' := σ16) fl5_ok [(81, .aload_n 0), (82, .getfield 22), (85, .iconst 2), (86, .aload_n 0), (87, .getfield 172), (90, .imul), (91, .iload_n 1)] (by decide +kernel) rfl rfl ?_
              refine g_xst (n := 60) (k := 2 * T.1) rfl (by rw [hTσ16.2.2.2.1]; exact ix2 _) (by omega) (by decide) (by decide +kernel) ?_
              generalize hτ17 : ((upd2 σ16.1 (9, 4, 0) (2 * T.1) (numS P s (eonS P s)), σ16.2) : Sg) = τ17
              refine g_blk (pc' := 106) (loc' := [some (vR (8, 0, 0)), some (vI (numS P s (eonS P s))), some (vI (numS P ((eonS P s) + 1) (eonS P ((eonS P s) + 1)))), some (vI (σ5.1 (8, 0, 0) 6))]) (st' := [vI (numS P ((eonS P s) + 1) (eonS P ((eonS P s) + 1))), vI (((2 : Int32) * (τ17.1 (8, 0, 0) 10)) + (1 : Int32)), vR (9, 4, 0)]) (σ' := τ17) fl5_ok [(93, .aload_n 0), (94, .getfield 22), (97, .iconst 2), (98, .aload_n 0), (99, .getfield 172), (102, .imul), (103, .iconst 1), (104, .iadd), (105, .iload_n 2)] (by decide +kernel) rfl rfl ?_
              refine g_xst (n := 60) (k := 2 * T.1 + 1) rfl (by rw [show τ17.1 (8, 0, 0) 10 = nI T.1 by rw [← hτ17]; exact hTσ16.2.2.2.1, ix2, nI_1]) (by omega) (by decide) (by decide +kernel) ?_
              generalize hτ18b : ((upd2 τ17.1 (9, 4, 0) (2 * T.1 + 1) (numS P ((eonS P s) + 1) (eonS P ((eonS P s) + 1))), τ17.2) : Sg) = τ18
              have hτ18a := hτ17
              refine g_blk (pc' := 117) (loc' := [some (vR (8, 0, 0)), some (vI (numS P s (eonS P s))), some (vI (numS P ((eonS P s) + 1) (eonS P ((eonS P s) + 1)))), some (vI (σ5.1 (8, 0, 0) 6))]) (st' := []) (σ' := (upd2 τ18.1 (8, 0, 0) 10 ((τ18.1 (8, 0, 0) 10) + (1 : Int32)), τ18.2)) fl5_ok [(107, .aload_n 0), (108, .dup), (109, .getfield 172), (112, .iconst 1), (113, .iadd), (114, .putfield 172)] (by decide +kernel) rfl rfl ?_
              generalize hσ19 : ((upd2 τ18.1 (8, 0, 0) 10 ((τ18.1 (8, 0, 0) 10) + (1 : Int32)), τ18.2) : Sg) = σ19
              rw [show τ18.1 (8, 0, 0) 10 = nI T.1 by rw [← hτ18b, ← hτ18a]; exact hTσ16.2.2.2.1, nI_1] at hσ19
              have hTσ19 := ts_add hTσ16 (by omega) hτ18a hτ18b hσ19
              refine g_vret (by decide +kernel) ⟨rfl, ?_⟩
              have hfin := hTσ19
              rw [show wrS P (eonS P s + 1) = 0 by rw [wrS, if_neg zc48]] at hfin
              rw [tkS, if_neg zc11, if_neg (not_not_intro zc20), if_neg zc48, if_neg zc53, if_neg zc60]
              exact hfin
