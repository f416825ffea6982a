/-! THE MODEL: its public methods that change the house (laid by wip/whole/mk39.py) -/
set_option maxHeartbeats 2000000 in
theorem m_resident (l : Launch) {σ : Sg} {f : Nat → Int32} {S : HA} {Hs : List HA} {P : PV} {n : Nat} (h : Mq_ S Hs P n f σ) (hn : n ≤ 1000000) (w : Int32) : Con l 1 yX5_resident cX5_resident 3 (some .int) [vR (8, 0, 0), vI w] (sa σ f) (Mp_ (xresident S Hs P w) n σ) := by
  obtain ⟨hE, hV, ⟨h3, h6⟩, hA, h5, hP⟩ := id h
  obtain ⟨hb0, hb1, hb2, hb3⟩ := hE.1
  have hnr := hE.2.2.1.1
  have hna := hE.2.2.1.2.1
  have hnt := hE.2.2.1.2.2.1
  have hns := hE.2.2.1.2.2.2
  refine con_of pn_X5_resident (Nat.le_of_ble_eq_true rfl) (fun hPK hok => ?_)
  show G l (Rm 1) RX5 cX5_resident 3 (some .int) _ 0 [some (vR (8, 0, 0)), some (vI w), none] [] (sa σ f)
  refine g_blk (pc' := 4) (loc' := [some (vR (8, 0, 0)), some (vI w), none]) (st' := [vI (10 : Int32), vI (1 : Int32), vI w]) (σ' := sa σ f) fl5_ok [(0, .iload_n 1), (1, .iconst 1), (2, .bipush 10)] (by decide +kernel) rfl rfl ?_
  refine g_callSp [vI w, vI (1 : Int32), vI (10 : Int32)] [] sl_RX5_29 mi_X5_in (c_X5_in l w (1 : Int32) (10 : Int32)) rfl ⟨Nat.le_of_ble_eq_true rfl, Nat.le_of_ble_eq_true rfl⟩ rfl (Nat.le_of_ble_eq_true rfl) (by decide +kernel) ?_
  refine g_if_ne (off := 6) (tgt := 13) (by decide +kernel) (by decide) (fun zc7 => ?_) (fun zc7 => ?_)
  · refine g_blk (pc' := 21) (loc' := [some (vR (8, 0, 0)), some (vI w), none]) (st' := [vI (8 : Int32), vI (f 1)]) (σ' := sa σ f) fl5_ok [(13, .aload_n 0), (14, .getfield 7), (17, .iconst 1), (18, .iaload), (19, .bipush 8)] (by decide +kernel) rfl rfl ?_
    refine g_icmp_ne (off := 6) (tgt := 27) (by decide +kernel) (by decide) (fun zc21 => ?_) (fun zc21 => ?_)
    · have hlt : sz S 0 < 8 := by
        rcases Nat.lt_or_ge (sz S 0) 8 with q | q
        · exact q
        · exact absurd (by rw [hnr, show sz S 0 = 8 by omega]; rfl) zc21
      have zf : fullS S 0 = 0 := if_neg (show ¬ 8 ≤ sz S 0 by omega)
      refine g_blk (pc' := 28) (loc' := [some (vR (8, 0, 0)), some (vI w), none]) (st' := [vR (8, 0, 0)]) (σ' := sa σ f) fl5_ok [(27, .aload_n 0)] (by decide +kernel) rfl rfl ?_
      refine g_callV (8, 0, 0) [] [] vl_RX5_33 mi_X5_keep (con_keep l h) rfl rfl rfl rfl ⟨Nat.le_of_ble_eq_true rfl, Nat.le_of_ble_eq_true rfl⟩ rfl (Nat.le_of_ble_eq_true rfl) (by decide +kernel) (fun o τ0 hP0 => ?_)
      obtain ⟨rfl, τ, rfl, hK⟩ := hP0
      refine g_blk (pc' := 47) (loc' := [some (vR (8, 0, 0)), some (vI w), some (vI (f 1))]) (st' := [vI ((f 1) + (1 : Int32)), vI (1 : Int32), vR (9, 0, 0)]) (σ' := sa τ f) fl5_ok [(31, .aload_n 0), (32, .getfield 7), (35, .iconst 1), (36, .iaload), (37, .istore_n 2), (38, .aload_n 0), (39, .getfield 7), (42, .iconst 1), (43, .dup2), (44, .iaload), (45, .iconst 1), (46, .iadd)] (by decide +kernel) rfl rfl ?_
      refine g_sst (k := 1) rfl (by omega) (by decide +kernel) ?_
      refine g_blk (pc' := 52) (loc' := [some (vR (8, 0, 0)), some (vI w), some (vI (f 1))]) (st' := [vI w, vI (0 : Int32), vI (f 1), vR (8, 0, 0)]) (σ' := sa τ (upd f 1 ((f 1) + (1 : Int32)))) fl5_ok [(48, .aload_n 0), (49, .iload_n 2), (50, .iconst 0), (51, .iload_n 1)] (by decide +kernel) rfl rfl ?_
      refine g_callV (8, 0, 0) [vI (f 1), vI (0 : Int32), vI w] [] vl_RX5_36 mi_X5_lay (c_X5_lay l (r := (sz S 0)) (c := 0) w hnr rfl (by omega) (by omega)) rfl rfl rfl rfl ⟨Nat.le_of_ble_eq_true rfl, Nat.le_of_ble_eq_true rfl⟩ rfl (Nat.le_of_ble_eq_true rfl) (by decide +kernel) (fun o σ1 hP => ?_)
      obtain ⟨rfl, rfl⟩ := hP
      refine g_blk (pc' := 59) (loc' := [some (vR (8, 0, 0)), some (vI w), some (vI (f 1))]) (st' := [vI (0 : Int32), vI (1 : Int32), vI (f 1), vR (8, 0, 0)]) (σ' := sa τ (so (upd f 1 ((f 1) + (1 : Int32))) (sz S 0) 0 w)) fl5_ok [(55, .aload_n 0), (56, .iload_n 2), (57, .iconst 1), (58, .iconst 0)] (by decide +kernel) rfl rfl ?_
      refine g_callV (8, 0, 0) [vI (f 1), vI (1 : Int32), vI (0 : Int32)] [] vl_RX5_36 mi_X5_lay (c_X5_lay l (r := (sz S 0)) (c := 1) (0 : Int32) hnr rfl (by omega) (by omega)) rfl rfl rfl rfl ⟨Nat.le_of_ble_eq_true rfl, Nat.le_of_ble_eq_true rfl⟩ rfl (Nat.le_of_ble_eq_true rfl) (by decide +kernel) (fun o σ2 hP => ?_)
      obtain ⟨rfl, rfl⟩ := hP
      refine g_blk (pc' := 66) (loc' := [some (vR (8, 0, 0)), some (vI w), some (vI (f 1))]) (st' := [vI (0 : Int32), vI (2 : Int32), vI (f 1), vR (8, 0, 0)]) (σ' := sa τ (so (so (upd f 1 ((f 1) + (1 : Int32))) (sz S 0) 0 w) (sz S 0) 1 (0 : Int32))) fl5_ok [(62, .aload_n 0), (63, .iload_n 2), (64, .iconst 2), (65, .iconst 0)] (by decide +kernel) rfl rfl ?_
      refine g_callV (8, 0, 0) [vI (f 1), vI (2 : Int32), vI (0 : Int32)] [] vl_RX5_36 mi_X5_lay (c_X5_lay l (r := (sz S 0)) (c := 2) (0 : Int32) hnr rfl (by omega) (by omega)) rfl rfl rfl rfl ⟨Nat.le_of_ble_eq_true rfl, Nat.le_of_ble_eq_true rfl⟩ rfl (Nat.le_of_ble_eq_true rfl) (by decide +kernel) (fun o σ3 hP => ?_)
      obtain ⟨rfl, rfl⟩ := hP
      refine g_blk (pc' := 73) (loc' := [some (vR (8, 0, 0)), some (vI w), some (vI (f 1))]) (st' := [vI (0 : Int32), vI (3 : Int32), vI (f 1), vR (8, 0, 0)]) (σ' := sa τ (so (so (so (upd f 1 ((f 1) + (1 : Int32))) (sz S 0) 0 w) (sz S 0) 1 (0 : Int32)) (sz S 0) 2 (0 : Int32))) fl5_ok [(69, .aload_n 0), (70, .iload_n 2), (71, .iconst 3), (72, .iconst 0)] (by decide +kernel) rfl rfl ?_
      refine g_callV (8, 0, 0) [vI (f 1), vI (3 : Int32), vI (0 : Int32)] [] vl_RX5_36 mi_X5_lay (c_X5_lay l (r := (sz S 0)) (c := 3) (0 : Int32) hnr rfl (by omega) (by omega)) rfl rfl rfl rfl ⟨Nat.le_of_ble_eq_true rfl, Nat.le_of_ble_eq_true rfl⟩ rfl (Nat.le_of_ble_eq_true rfl) (by decide +kernel) (fun o σ4 hP => ?_)
      obtain ⟨rfl, rfl⟩ := hP
      refine g_blk (pc' := 81) (loc' := [some (vR (8, 0, 0)), some (vI w), some (vI (f 1))]) (st' := [vI (-6 : Int32), vI (4 : Int32), vI (f 1), vR (8, 0, 0)]) (σ' := sa τ (so (so (so (so (upd f 1 ((f 1) + (1 : Int32))) (sz S 0) 0 w) (sz S 0) 1 (0 : Int32)) (sz S 0) 2 (0 : Int32)) (sz S 0) 3 (0 : Int32))) fl5_ok [(76, .aload_n 0), (77, .iload_n 2), (78, .iconst 4), (79, .bipush (-6))] (by decide +kernel) rfl rfl ?_
      refine g_callV (8, 0, 0) [vI (f 1), vI (4 : Int32), vI (-6 : Int32)] [] vl_RX5_36 mi_X5_lay (c_X5_lay l (r := (sz S 0)) (c := 4) (-6 : Int32) hnr rfl (by omega) (by omega)) rfl rfl rfl rfl ⟨Nat.le_of_ble_eq_true rfl, Nat.le_of_ble_eq_true rfl⟩ rfl (Nat.le_of_ble_eq_true rfl) (by decide +kernel) (fun o σ5 hP => ?_)
      obtain ⟨rfl, rfl⟩ := hP
      refine g_blk (pc' := 89) (loc' := [some (vR (8, 0, 0)), some (vI w), some (vI (f 1))]) (st' := [vI (-6 : Int32), vI (5 : Int32), vI (f 1), vR (8, 0, 0)]) (σ' := sa τ (so (so (so (so (so (upd f 1 ((f 1) + (1 : Int32))) (sz S 0) 0 w) (sz S 0) 1 (0 : Int32)) (sz S 0) 2 (0 : Int32)) (sz S 0) 3 (0 : Int32)) (sz S 0) 4 (-6 : Int32))) fl5_ok [(84, .aload_n 0), (85, .iload_n 2), (86, .iconst 5), (87, .bipush (-6))] (by decide +kernel) rfl rfl ?_
      refine g_callV (8, 0, 0) [vI (f 1), vI (5 : Int32), vI (-6 : Int32)] [] vl_RX5_36 mi_X5_lay (c_X5_lay l (r := (sz S 0)) (c := 5) (-6 : Int32) hnr rfl (by omega) (by omega)) rfl rfl rfl rfl ⟨Nat.le_of_ble_eq_true rfl, Nat.le_of_ble_eq_true rfl⟩ rfl (Nat.le_of_ble_eq_true rfl) (by decide +kernel) (fun o σ6 hP => ?_)
      obtain ⟨rfl, rfl⟩ := hP
      refine g_blk (pc' := 93) (loc' := [some (vR (8, 0, 0)), some (vI w), some (vI (f 1))]) (st' := [vI (f 1)]) (σ' := sa τ (so (so (so (so (so (so (upd f 1 ((f 1) + (1 : Int32))) (sz S 0) 0 w) (sz S 0) 1 (0 : Int32)) (sz S 0) 2 (0 : Int32)) (sz S 0) 3 (0 : Int32)) (sz S 0) 4 (-6 : Int32)) (sz S 0) 5 (-6 : Int32))) fl5_ok [(92, .iload_n 2)] (by decide +kernel) rfl rfl ?_
      have hx : xresident S Hs P w = (nI (sz S 0), kp S Hs P (addResS S w)) := by rw [xresident, if_pos zc7, if_pos zf]
      obtain ⟨wn, w1, w2, hwe⟩ := in_nat (a := 1) (b := 10) (by decide) (by decide) zc7
      have hrow : so (so (so (so (so (so (upd f 1 ((f 1) + (1 : Int32))) (sz S 0) 0 w) (sz S 0) 1 (0 : Int32)) (sz S 0) 2 (0 : Int32)) (sz S 0) 3 (0 : Int32)) (sz S 0) 4 (-6 : Int32)) (sz S 0) 5 (-6 : Int32) = rowM f (sz S 0) w := by rw [rowM, ← nI_1, ← hnr]
      rw [hx, hrow]
      exact g_iret (by decide +kernel) ⟨congrArg (fun z => some (vI z)) hnr, τ, _, rfl, hK.2 _ _ _ (by omega) (e_addR hE hV.2.2.2.2.2.2 hlt w) (by rw [hwe]; exact (v_addR hV hlt w1 w2).le (by omega)), hK.1⟩
    · have hge : 8 ≤ sz S 0 := by
        rw [hnr] at zc21
        have := (nI_eq (b := 8) (by omega) (by decide)).mp zc21
        omega
      have zf : ¬ fullS S 0 = 0 := by rw [fullS, if_pos (show mst 0 ≤ sz S 0 from hge)]; decide
      refine g_blk (pc' := 26) (loc' := [some (vR (8, 0, 0)), some (vI w), none]) (st' := [vI (-4 : Int32)]) (σ' := sa σ f) fl5_ok [(24, .bipush (-4))] (by decide +kernel) rfl rfl ?_
      have hx : xresident S Hs P w = ((-4 : Int32), (S, (Hs, P))) := by rw [xresident, if_pos zc7, if_neg zf]
      rw [hx]
      exact g_iret (by decide +kernel) ⟨rfl, σ, f, rfl, h.le (by omega), FrM.rf⟩
  · refine g_blk (pc' := 12) (loc' := [some (vR (8, 0, 0)), some (vI w), none]) (st' := [vI (-2 : Int32)]) (σ' := sa σ f) fl5_ok [(10, .bipush (-2))] (by decide +kernel) rfl rfl ?_
    have hx : xresident S Hs P w = ((-2 : Int32), (S, (Hs, P))) := by rw [xresident, if_neg (not_not_intro zc7)]
    rw [hx]
    exact g_iret (by decide +kernel) ⟨rfl, σ, f, rfl, h.le (by omega), FrM.rf⟩
set_option maxHeartbeats 2000000 in
theorem m_weigh (l : Launch) {σ : Sg} {f : Nat → Int32} {S : HA} {Hs : List HA} {P : PV} {n : Nat} (h : Mq_ S Hs P n f σ) (hn : n ≤ 1000000) (r w : Int32) : Con l 1 yX5_weigh cX5_weigh 4 (some .int) [vR (8, 0, 0), vI r, vI w] (sa σ f) (Mp_ (xweigh S Hs P r w) n σ) := by
  obtain ⟨hE, hV, ⟨h3, h6⟩, hA, h5, hP⟩ := id h
  obtain ⟨hb0, hb1, hb2, hb3⟩ := hE.1
  have hnr := hE.2.2.1.1
  have hna := hE.2.2.1.2.1
  have hnt := hE.2.2.1.2.2.1
  have hns := hE.2.2.1.2.2.2
  refine con_of pn_X5_weigh (Nat.le_of_ble_eq_true rfl) (fun hPK hok => ?_)
  show G l (Rm 1) RX5 cX5_weigh 4 (some .int) _ 0 [some (vR (8, 0, 0)), some (vI r), some (vI w), none] [] (sa σ f)
  refine g_blk (pc' := 2) (loc' := [some (vR (8, 0, 0)), some (vI r), some (vI w), none]) (st' := [vI r, vR (8, 0, 0)]) (σ' := sa σ f) fl5_ok [(0, .aload_n 0), (1, .iload_n 1)] (by decide +kernel) rfl rfl ?_
  refine g_callVp (8, 0, 0) [vI r] [] vl_RX5_40 mi_X5_isResident (c_X5_isResident l (n := (sz S 0)) r hnr (by omega)) rfl rfl rfl rfl ⟨Nat.le_of_ble_eq_true rfl, Nat.le_of_ble_eq_true rfl⟩ rfl (Nat.le_of_ble_eq_true rfl) (by decide +kernel) ?_
  refine g_if_ne (off := 5) (tgt := 10) (by decide +kernel) (by decide) (fun zc5 => ?_) (fun zc5 => ?_)
  · obtain ⟨k, hk, rfl⟩ := has_ex (by omega) zc5
    refine g_blk (pc' := 14) (loc' := [some (vR (8, 0, 0)), some (vI (nI k)), some (vI w), none]) (st' := [vI (10 : Int32), vI (1 : Int32), vI w]) (σ' := sa σ f) fl5_ok [(10, .iload_n 2), (11, .iconst 1), (12, .bipush 10)] (by decide +kernel) rfl rfl ?_
    refine g_callSp [vI w, vI (1 : Int32), vI (10 : Int32)] [] sl_RX5_29 mi_X5_in (c_X5_in l w (1 : Int32) (10 : Int32)) rfl ⟨Nat.le_of_ble_eq_true rfl, Nat.le_of_ble_eq_true rfl⟩ rfl (Nat.le_of_ble_eq_true rfl) (by decide +kernel) ?_
    refine g_if_ne (off := 6) (tgt := 23) (by decide +kernel) (by decide) (fun zc17 => ?_) (fun zc17 => ?_)
    · refine g_blk (pc' := 24) (loc' := [some (vR (8, 0, 0)), some (vI (nI k)), some (vI w), none]) (st' := [vR (8, 0, 0)]) (σ' := sa σ f) fl5_ok [(23, .aload_n 0)] (by decide +kernel) rfl rfl ?_
      refine g_callV (8, 0, 0) [] [] vl_RX5_33 mi_X5_keep (con_keep l h) rfl rfl rfl rfl ⟨Nat.le_of_ble_eq_true rfl, Nat.le_of_ble_eq_true rfl⟩ rfl (Nat.le_of_ble_eq_true rfl) (by decide +kernel) (fun o τ0 hP0 => ?_)
      obtain ⟨rfl, τ, rfl, hK⟩ := hP0
      refine g_blk (pc' := 30) (loc' := [some (vR (8, 0, 0)), some (vI (nI k)), some (vI w), none]) (st' := [vI (0 : Int32), vI (nI k), vR (8, 0, 0)]) (σ' := sa τ f) fl5_ok [(27, .aload_n 0), (28, .iload_n 1), (29, .iconst 0)] (by decide +kernel) rfl rfl ?_
      refine g_callVp (8, 0, 0) [vI (nI k), vI (0 : Int32)] [] vl_RX5_44 mi_X5_of (c_X5_of l (r := k) (c := 0) rfl rfl (by omega) (by omega)) rfl rfl rfl rfl ⟨Nat.le_of_ble_eq_true rfl, Nat.le_of_ble_eq_true rfl⟩ rfl (Nat.le_of_ble_eq_true rfl) (by decide +kernel) ?_
      refine g_blk (pc' := 38) (loc' := [some (vR (8, 0, 0)), some (vI (nI k)), some (vI w), some (vI (mo f k 0))]) (st' := [vI w, vI (0 : Int32), vI (nI k), vR (8, 0, 0)]) (σ' := sa τ f) fl5_ok [(33, .istore_n 3), (34, .aload_n 0), (35, .iload_n 1), (36, .iconst 0), (37, .iload_n 2)] (by decide +kernel) rfl rfl ?_
      refine g_callV (8, 0, 0) [vI (nI k), vI (0 : Int32), vI w] [] vl_RX5_36 mi_X5_lay (c_X5_lay l (r := k) (c := 0) w rfl rfl (by omega) (by omega)) rfl rfl rfl rfl ⟨Nat.le_of_ble_eq_true rfl, Nat.le_of_ble_eq_true rfl⟩ rfl (Nat.le_of_ble_eq_true rfl) (by decide +kernel) (fun o σ1 hP => ?_)
      obtain ⟨rfl, rfl⟩ := hP
      refine g_blk (pc' := 42) (loc' := [some (vR (8, 0, 0)), some (vI (nI k)), some (vI w), some (vI (mo f k 0))]) (st' := [vI (mo f k 0)]) (σ' := sa τ (so f k 0 w)) fl5_ok [(41, .iload_n 3)] (by decide +kernel) rfl rfl ?_
      have hx : xweigh S Hs P (nI k) w = (cl S 0 (nI k) 0, kp S Hs P (wr S 0 (nI k) 0 w)) := by rw [xweigh, if_pos zc5, if_pos zc17]
      obtain ⟨wn, w1, w2, hwe⟩ := in_nat (a := 1) (b := 10) (by decide) (by decide) zc17
      rw [hx, cl0 (by omega), wc0 hk (by decide) (by omega)]
      exact g_iret (by decide +kernel) ⟨congrArg (fun z => some (vI z)) (hE.2.2.2.2.1 k hk).1, τ, _, rfl, hK.2 _ _ _ (by omega) (e_so0 hE hk w) (by rw [hwe]; exact (v_weigh hV hk w1 w2).le (by omega)), hK.1⟩
    · refine g_blk (pc' := 22) (loc' := [some (vR (8, 0, 0)), some (vI (nI k)), some (vI w), none]) (st' := [vI (-2 : Int32)]) (σ' := sa σ f) fl5_ok [(20, .bipush (-2))] (by decide +kernel) rfl rfl ?_
      have hx : xweigh S Hs P (nI k) w = ((-2 : Int32), (S, (Hs, P))) := by rw [xweigh, if_pos zc5, if_neg (not_not_intro zc17)]
      rw [hx]
      exact g_iret (by decide +kernel) ⟨rfl, σ, f, rfl, h.le (by omega), FrM.rf⟩
  · refine g_blk (pc' := 9) (loc' := [some (vR (8, 0, 0)), some (vI r), some (vI w), none]) (st' := [vI (-1 : Int32)]) (σ' := sa σ f) fl5_ok [(8, .iconst (-1))] (by decide +kernel) rfl rfl ?_
    have hx : xweigh S Hs P r w = ((-1 : Int32), (S, (Hs, P))) := by rw [xweigh, if_neg (not_not_intro zc5)]
    rw [hx]
    exact g_iret (by decide +kernel) ⟨rfl, σ, f, rfl, h.le (by omega), FrM.rf⟩
set_option maxHeartbeats 2000000 in
theorem m_away (l : Launch) {σ : Sg} {f : Nat → Int32} {S : HA} {Hs : List HA} {P : PV} {n : Nat} (h : Mq_ S Hs P n f σ) (hn : n ≤ 1000000) (r a b : Int32) : Con l 2 yX5_away cX5_away 4 (some .int) [vR (8, 0, 0), vI r, vI a, vI b] (sa σ f) (Mp_ (xaway S Hs P r a b) n σ) := by
  obtain ⟨hE, hV, ⟨h3, h6⟩, hA, h5, hP⟩ := id h
  obtain ⟨hb0, hb1, hb2, hb3⟩ := hE.1
  have hnr := hE.2.2.1.1
  have hna := hE.2.2.1.2.1
  have hnt := hE.2.2.1.2.2.1
  have hns := hE.2.2.1.2.2.2
  refine con_of pn_X5_away (Nat.le_of_ble_eq_true rfl) (fun hPK hok => ?_)
  show G l (Rm 2) RX5 cX5_away 4 (some .int) _ 0 [some (vR (8, 0, 0)), some (vI r), some (vI a), some (vI b)] [] (sa σ f)
  refine g_blk (pc' := 2) (loc' := [some (vR (8, 0, 0)), some (vI r), some (vI a), some (vI b)]) (st' := [vI r, vR (8, 0, 0)]) (σ' := sa σ f) fl5_ok [(0, .aload_n 0), (1, .iload_n 1)] (by decide +kernel) rfl rfl ?_
  refine g_callVp (8, 0, 0) [vI r] [] vl_RX5_40 mi_X5_isResident (c_X5_isResident l (n := (sz S 0)) r hnr (by omega)) rfl rfl rfl rfl ⟨Nat.le_of_ble_eq_true rfl, Nat.le_of_ble_eq_true rfl⟩ rfl (Nat.le_of_ble_eq_true rfl) (by decide +kernel) ?_
  refine g_if_ne (off := 5) (tgt := 10) (by decide +kernel) (by decide) (fun zc5 => ?_) (fun zc5 => ?_)
  · obtain ⟨k, hk, rfl⟩ := has_ex (by omega) zc5
    refine g_blk (pc' := 15) (loc' := [some (vR (8, 0, 0)), some (vI (nI k)), some (vI a), some (vI b)]) (st' := [vI (999 : Int32), vI (0 : Int32), vI a]) (σ' := sa σ f) fl5_ok [(10, .iload_n 2), (11, .iconst 0), (12, .sipush 999)] (by decide +kernel) rfl rfl ?_
    refine g_callSp [vI a, vI (0 : Int32), vI (999 : Int32)] [] sl_RX5_29 mi_X5_in (c_X5_in l a (0 : Int32) (999 : Int32)) rfl ⟨Nat.le_of_ble_eq_true rfl, Nat.le_of_ble_eq_true rfl⟩ rfl (Nat.le_of_ble_eq_true rfl) (by decide +kernel) ?_
    refine g_if_eq (off := 14) (tgt := 32) (by decide +kernel) (by decide) (fun zc18 => ?_) (fun zc18 => ?_)
    · refine g_blk (pc' := 34) (loc' := [some (vR (8, 0, 0)), some (vI (nI k)), some (vI a), some (vI b)]) (st' := [vI (-2 : Int32)]) (σ' := sa σ f) fl5_ok [(32, .bipush (-2))] (by decide +kernel) rfl rfl ?_
      have hx : xaway S Hs P (nI k) a b = ((-2 : Int32), (S, (Hs, P))) := by rw [xaway, if_pos zc5, if_pos zc18]
      rw [hx]
      exact g_iret (by decide +kernel) ⟨rfl, σ, f, rfl, h.le (by omega), FrM.rf⟩
    · refine g_blk (pc' := 26) (loc' := [some (vR (8, 0, 0)), some (vI (nI k)), some (vI a), some (vI b)]) (st' := [vI (999 : Int32), vI a, vI b]) (σ' := sa σ f) fl5_ok [(21, .iload_n 3), (22, .iload_n 2), (23, .sipush 999)] (by decide +kernel) rfl rfl ?_
      refine g_callSp [vI b, vI a, vI (999 : Int32)] [] sl_RX5_29 mi_X5_in (c_X5_in l b a (999 : Int32)) rfl ⟨Nat.le_of_ble_eq_true rfl, Nat.le_of_ble_eq_true rfl⟩ rfl (Nat.le_of_ble_eq_true rfl) (by decide +kernel) ?_
      refine g_if_ne (off := 6) (tgt := 35) (by decide +kernel) (by decide) (fun zc29 => ?_) (fun zc29 => ?_)
      · refine g_blk (pc' := 36) (loc' := [some (vR (8, 0, 0)), some (vI (nI k)), some (vI a), some (vI b)]) (st' := [vR (8, 0, 0)]) (σ' := sa σ f) fl5_ok [(35, .aload_n 0)] (by decide +kernel) rfl rfl ?_
        refine g_callV (8, 0, 0) [] [] vl_RX5_33 mi_X5_keep (con_keep l h) rfl rfl rfl rfl ⟨Nat.le_of_ble_eq_true rfl, Nat.le_of_ble_eq_true rfl⟩ rfl (Nat.le_of_ble_eq_true rfl) (by decide +kernel) (fun o τ0 hP0 => ?_)
        obtain ⟨rfl, τ, rfl, hK⟩ := hP0
        refine g_blk (pc' := 43) (loc' := [some (vR (8, 0, 0)), some (vI (nI k)), some (vI a), some (vI b)]) (st' := [vI a, vI (4 : Int32), vI (nI k), vR (8, 0, 0)]) (σ' := sa τ f) fl5_ok [(39, .aload_n 0), (40, .iload_n 1), (41, .iconst 4), (42, .iload_n 2)] (by decide +kernel) rfl rfl ?_
        refine g_callV (8, 0, 0) [vI (nI k), vI (4 : Int32), vI a] [] vl_RX5_36 mi_X5_lay (c_X5_lay l (r := k) (c := 4) a rfl rfl (by omega) (by omega)) rfl rfl rfl rfl ⟨Nat.le_of_ble_eq_true rfl, Nat.le_of_ble_eq_true rfl⟩ rfl (Nat.le_of_ble_eq_true rfl) (by decide +kernel) (fun o σ1 hP => ?_)
        obtain ⟨rfl, rfl⟩ := hP
        refine g_blk (pc' := 50) (loc' := [some (vR (8, 0, 0)), some (vI (nI k)), some (vI a), some (vI b)]) (st' := [vI b, vI (5 : Int32), vI (nI k), vR (8, 0, 0)]) (σ' := sa τ (so f k 4 a)) fl5_ok [(46, .aload_n 0), (47, .iload_n 1), (48, .iconst 5), (49, .iload_n 3)] (by decide +kernel) rfl rfl ?_
        refine g_callV (8, 0, 0) [vI (nI k), vI (5 : Int32), vI b] [] vl_RX5_36 mi_X5_lay (c_X5_lay l (r := k) (c := 5) b rfl rfl (by omega) (by omega)) rfl rfl rfl rfl ⟨Nat.le_of_ble_eq_true rfl, Nat.le_of_ble_eq_true rfl⟩ rfl (Nat.le_of_ble_eq_true rfl) (by decide +kernel) (fun o σ2 hP => ?_)
        obtain ⟨rfl, rfl⟩ := hP
        refine g_blk (pc' := 55) (loc' := [some (vR (8, 0, 0)), some (vI (nI k)), some (vI a), some (vI b)]) (st' := [vI (nI k), vR (8, 0, 0)]) (σ' := sa τ (so (so f k 4 a) k 5 b)) fl5_ok [(53, .aload_n 0), (54, .iload_n 1)] (by decide +kernel) rfl rfl ?_
        refine g_callVp (8, 0, 0) [vI (nI k)] [] vl_RX5_48 mi_X5_isAway (c_X5_isAway l (r := k) rfl (by omega)) rfl rfl rfl rfl ⟨Nat.le_of_ble_eq_true rfl, Nat.le_of_ble_eq_true rfl⟩ rfl (Nat.le_of_ble_eq_true rfl) (by decide +kernel) ?_
        refine g_if_eq (off := 7) (tgt := 65) (by decide +kernel) (by decide) (fun zc58 => ?_) (fun zc58 => ?_)
        · refine g_blk (pc' := 66) (loc' := [some (vR (8, 0, 0)), some (vI (nI k)), some (vI a), some (vI b)]) (st' := [vI (0 : Int32)]) (σ' := sa τ (so (so f k 4 a) k 5 b)) fl5_ok [(65, .iconst 0)] (by decide +kernel) rfl rfl ?_
          have hx : xaway S Hs P (nI k) a b = (bitS (awayS (awN S k a b) (nI k)), kp S Hs P (awN S k a b)) := by
            rw [xaway, if_pos zc5, if_neg zc18, if_pos zc29, wc1 hk (by decide) (by omega), wc2 (by rw [sz_W]; exact hk) (by decide) (by rw [sz_W]; omega)]
            rfl
          have E1 := e_away hE hk a b
          have V1 := v_away (x := a) (y := b) hV hk
          have haw := away_eq E1 V1 (r := k) (by rw [awN, sz_W, sz_W]; exact hk)
          rw [hx, ← haw]
          exact g_iret (by decide +kernel) ⟨(by rw [zc58]; rfl), τ, _, rfl, hK.2 _ _ _ (by omega) E1 (V1.le (by omega)), hK.1⟩
        · refine g_blk (pc' := 66) (loc' := [some (vR (8, 0, 0)), some (vI (nI k)), some (vI a), some (vI b)]) (st' := [vI (1 : Int32)]) (σ' := sa τ (so (so f k 4 a) k 5 b)) fl5_ok [(61, .iconst 1), (62, .goto 4)] (by decide +kernel) rfl rfl ?_
          have hx : xaway S Hs P (nI k) a b = (bitS (awayS (awN S k a b) (nI k)), kp S Hs P (awN S k a b)) := by
            rw [xaway, if_pos zc5, if_neg zc18, if_pos zc29, wc1 hk (by decide) (by omega), wc2 (by rw [sz_W]; exact hk) (by decide) (by rw [sz_W]; omega)]
            rfl
          have E1 := e_away hE hk a b
          have V1 := v_away (x := a) (y := b) hV hk
          have haw := away_eq E1 V1 (r := k) (by rw [awN, sz_W, sz_W]; exact hk)
          rw [hx, ← haw]
          exact g_iret (by decide +kernel) ⟨(by rw [bitS, if_neg zc58]), τ, _, rfl, hK.2 _ _ _ (by omega) E1 (V1.le (by omega)), hK.1⟩
      · refine g_blk (pc' := 34) (loc' := [some (vR (8, 0, 0)), some (vI (nI k)), some (vI a), some (vI b)]) (st' := [vI (-2 : Int32)]) (σ' := sa σ f) fl5_ok [(32, .bipush (-2))] (by decide +kernel) rfl rfl ?_
        have hx : xaway S Hs P (nI k) a b = ((-2 : Int32), (S, (Hs, P))) := by rw [xaway, if_pos zc5, if_neg zc18, if_neg (not_not_intro zc29)]
        rw [hx]
        exact g_iret (by decide +kernel) ⟨rfl, σ, f, rfl, h.le (by omega), FrM.rf⟩
  · refine g_blk (pc' := 9) (loc' := [some (vR (8, 0, 0)), some (vI r), some (vI a), some (vI b)]) (st' := [vI (-1 : Int32)]) (σ' := sa σ f) fl5_ok [(8, .iconst (-1))] (by decide +kernel) rfl rfl ?_
    have hx : xaway S Hs P r a b = ((-1 : Int32), (S, (Hs, P))) := by rw [xaway, if_neg (not_not_intro zc5)]
    rw [hx]
    exact g_iret (by decide +kernel) ⟨rfl, σ, f, rfl, h.le (by omega), FrM.rf⟩
set_option maxHeartbeats 2000000 in
theorem m_area (l : Launch) {σ : Sg} {f : Nat → Int32} {S : HA} {Hs : List HA} {P : PV} {n : Nat} (h : Mq_ S Hs P n f σ) (hn : n ≤ 1000000) (e p g : Int32) : Con l 1 yX5_area cX5_area 5 (some .int) [vR (8, 0, 0), vI e, vI p, vI g] (sa σ f) (Mp_ (xarea S Hs P e p g) n σ) := by
  obtain ⟨hE, hV, ⟨h3, h6⟩, hA, h5, hP⟩ := id h
  obtain ⟨hb0, hb1, hb2, hb3⟩ := hE.1
  have hnr := hE.2.2.1.1
  have hna := hE.2.2.1.2.1
  have hnt := hE.2.2.1.2.2.1
  have hns := hE.2.2.1.2.2.2
  refine con_of pn_X5_area (Nat.le_of_ble_eq_true rfl) (fun hPK hok => ?_)
  show G l (Rm 1) RX5 cX5_area 5 (some .int) _ 0 [some (vR (8, 0, 0)), some (vI e), some (vI p), some (vI g), none] [] (sa σ f)
  refine g_blk (pc' := 4) (loc' := [some (vR (8, 0, 0)), some (vI e), some (vI p), some (vI g), none]) (st' := [vI (20 : Int32), vI (1 : Int32), vI e]) (σ' := sa σ f) fl5_ok [(0, .iload_n 1), (1, .iconst 1), (2, .bipush 20)] (by decide +kernel) rfl rfl ?_
  refine g_callSp [vI e, vI (1 : Int32), vI (20 : Int32)] [] sl_RX5_29 mi_X5_in (c_X5_in l e (1 : Int32) (20 : Int32)) rfl ⟨Nat.le_of_ble_eq_true rfl, Nat.le_of_ble_eq_true rfl⟩ rfl (Nat.le_of_ble_eq_true rfl) (by decide +kernel) ?_
  refine g_if_eq (off := 23) (tgt := 30) (by decide +kernel) (by decide) (fun zc7 => ?_) (fun zc7 => ?_)
  · refine g_blk (pc' := 32) (loc' := [some (vR (8, 0, 0)), some (vI e), some (vI p), some (vI g), none]) (st' := [vI (-2 : Int32)]) (σ' := sa σ f) fl5_ok [(30, .bipush (-2))] (by decide +kernel) rfl rfl ?_
    have hx : xarea S Hs P e p g = ((-2 : Int32), (S, (Hs, P))) := by rw [xarea, if_pos zc7]
    rw [hx]
    exact g_iret (by decide +kernel) ⟨rfl, σ, f, rfl, h.le (by omega), FrM.rf⟩
  · refine g_blk (pc' := 13) (loc' := [some (vR (8, 0, 0)), some (vI e), some (vI p), some (vI g), none]) (st' := [vI (4 : Int32), vI (1 : Int32), vI p]) (σ' := sa σ f) fl5_ok [(10, .iload_n 2), (11, .iconst 1), (12, .iconst 4)] (by decide +kernel) rfl rfl ?_
    refine g_callSp [vI p, vI (1 : Int32), vI (4 : Int32)] [] sl_RX5_29 mi_X5_in (c_X5_in l p (1 : Int32) (4 : Int32)) rfl ⟨Nat.le_of_ble_eq_true rfl, Nat.le_of_ble_eq_true rfl⟩ rfl (Nat.le_of_ble_eq_true rfl) (by decide +kernel) ?_
    refine g_if_eq (off := 14) (tgt := 30) (by decide +kernel) (by decide) (fun zc16 => ?_) (fun zc16 => ?_)
    · refine g_blk (pc' := 32) (loc' := [some (vR (8, 0, 0)), some (vI e), some (vI p), some (vI g), none]) (st' := [vI (-2 : Int32)]) (σ' := sa σ f) fl5_ok [(30, .bipush (-2))] (by decide +kernel) rfl rfl ?_
      have hx : xarea S Hs P e p g = ((-2 : Int32), (S, (Hs, P))) := by rw [xarea, if_neg zc7, if_pos zc16]
      rw [hx]
      exact g_iret (by decide +kernel) ⟨rfl, σ, f, rfl, h.le (by omega), FrM.rf⟩
    · refine g_blk (pc' := 24) (loc' := [some (vR (8, 0, 0)), some (vI e), some (vI p), some (vI g), none]) (st' := [vI (200 : Int32), vI (0 : Int32), vI g]) (σ' := sa σ f) fl5_ok [(19, .iload_n 3), (20, .iconst 0), (21, .sipush 200)] (by decide +kernel) rfl rfl ?_
      refine g_callSp [vI g, vI (0 : Int32), vI (200 : Int32)] [] sl_RX5_29 mi_X5_in (c_X5_in l g (0 : Int32) (200 : Int32)) rfl ⟨Nat.le_of_ble_eq_true rfl, Nat.le_of_ble_eq_true rfl⟩ rfl (Nat.le_of_ble_eq_true rfl) (by decide +kernel) ?_
      refine g_if_ne (off := 6) (tgt := 33) (by decide +kernel) (by decide) (fun zc27 => ?_) (fun zc27 => ?_)
      · refine g_blk (pc' := 41) (loc' := [some (vR (8, 0, 0)), some (vI e), some (vI p), some (vI g), none]) (st' := [vI (6 : Int32), vI (f 2)]) (σ' := sa σ f) fl5_ok [(33, .aload_n 0), (34, .getfield 7), (37, .iconst 2), (38, .iaload), (39, .bipush 6)] (by decide +kernel) rfl rfl ?_
        refine g_icmp_ne (off := 6) (tgt := 47) (by decide +kernel) (by decide) (fun zc41 => ?_) (fun zc41 => ?_)
        · have hlt : sz S 1 < 6 := by
            rcases Nat.lt_or_ge (sz S 1) 6 with q | q
            · exact q
            · exact absurd (by rw [hna, show sz S 1 = 6 by omega]; rfl) zc41
          have zf : fullS S 1 = 0 := if_neg (show ¬ 6 ≤ sz S 1 by omega)
          refine g_blk (pc' := 48) (loc' := [some (vR (8, 0, 0)), some (vI e), some (vI p), some (vI g), none]) (st' := [vR (8, 0, 0)]) (σ' := sa σ f) fl5_ok [(47, .aload_n 0)] (by decide +kernel) rfl rfl ?_
          refine g_callV (8, 0, 0) [] [] vl_RX5_33 mi_X5_keep (con_keep l h) rfl rfl rfl rfl ⟨Nat.le_of_ble_eq_true rfl, Nat.le_of_ble_eq_true rfl⟩ rfl (Nat.le_of_ble_eq_true rfl) (by decide +kernel) (fun o τ0 hP0 => ?_)
          obtain ⟨rfl, τ, rfl, hK⟩ := hP0
          refine g_blk (pc' := 68) (loc' := [some (vR (8, 0, 0)), some (vI e), some (vI p), some (vI g), some (vI (f 2))]) (st' := [vI ((f 2) + (1 : Int32)), vI (2 : Int32), vR (9, 0, 0)]) (σ' := sa τ f) fl5_ok [(51, .aload_n 0), (52, .getfield 7), (55, .iconst 2), (56, .iaload), (57, .istore 4), (59, .aload_n 0), (60, .getfield 7), (63, .iconst 2), (64, .dup2), (65, .iaload), (66, .iconst 1), (67, .iadd)] (by decide +kernel) rfl rfl ?_
          refine g_sst (k := 2) rfl (by omega) (by decide +kernel) ?_
          refine g_blk (pc' := 74) (loc' := [some (vR (8, 0, 0)), some (vI e), some (vI p), some (vI g), some (vI (f 2))]) (st' := [vI e, vI (0 : Int32), vI (f 2), vR (8, 0, 0)]) (σ' := sa τ (upd f 2 ((f 2) + (1 : Int32)))) fl5_ok [(69, .aload_n 0), (70, .iload 4), (72, .iconst 0), (73, .iload_n 1)] (by decide +kernel) rfl rfl ?_
          refine g_callV (8, 0, 0) [vI (f 2), vI (0 : Int32), vI e] [] vl_RX5_51 mi_X5_layArea (c_X5_layArea l (r := (sz S 1)) (c := 0) e hna rfl (by omega) (by omega)) rfl rfl rfl rfl ⟨Nat.le_of_ble_eq_true rfl, Nat.le_of_ble_eq_true rfl⟩ rfl (Nat.le_of_ble_eq_true rfl) (by decide +kernel) (fun o σ1 hP => ?_)
          obtain ⟨rfl, rfl⟩ := hP
          refine g_blk (pc' := 82) (loc' := [some (vR (8, 0, 0)), some (vI e), some (vI p), some (vI g), some (vI (f 2))]) (st' := [vI p, vI (1 : Int32), vI (f 2), vR (8, 0, 0)]) (σ' := sa τ (sA (upd f 2 ((f 2) + (1 : Int32))) (sz S 1) 0 e)) fl5_ok [(77, .aload_n 0), (78, .iload 4), (80, .iconst 1), (81, .iload_n 2)] (by decide +kernel) rfl rfl ?_
          refine g_callV (8, 0, 0) [vI (f 2), vI (1 : Int32), vI p] [] vl_RX5_51 mi_X5_layArea (c_X5_layArea l (r := (sz S 1)) (c := 1) p hna rfl (by omega) (by omega)) rfl rfl rfl rfl ⟨Nat.le_of_ble_eq_true rfl, Nat.le_of_ble_eq_true rfl⟩ rfl (Nat.le_of_ble_eq_true rfl) (by decide +kernel) (fun o σ2 hP => ?_)
          obtain ⟨rfl, rfl⟩ := hP
          refine g_blk (pc' := 90) (loc' := [some (vR (8, 0, 0)), some (vI e), some (vI p), some (vI g), some (vI (f 2))]) (st' := [vI g, vI (2 : Int32), vI (f 2), vR (8, 0, 0)]) (σ' := sa τ (sA (sA (upd f 2 ((f 2) + (1 : Int32))) (sz S 1) 0 e) (sz S 1) 1 p)) fl5_ok [(85, .aload_n 0), (86, .iload 4), (88, .iconst 2), (89, .iload_n 3)] (by decide +kernel) rfl rfl ?_
          refine g_callV (8, 0, 0) [vI (f 2), vI (2 : Int32), vI g] [] vl_RX5_51 mi_X5_layArea (c_X5_layArea l (r := (sz S 1)) (c := 2) g hna rfl (by omega) (by omega)) rfl rfl rfl rfl ⟨Nat.le_of_ble_eq_true rfl, Nat.le_of_ble_eq_true rfl⟩ rfl (Nat.le_of_ble_eq_true rfl) (by decide +kernel) (fun o σ3 hP => ?_)
          obtain ⟨rfl, rfl⟩ := hP
          refine g_blk (pc' := 98) (loc' := [some (vR (8, 0, 0)), some (vI e), some (vI p), some (vI g), some (vI (f 2))]) (st' := [vI (0 : Int32), vI (3 : Int32), vI (f 2), vR (8, 0, 0)]) (σ' := sa τ (sA (sA (sA (upd f 2 ((f 2) + (1 : Int32))) (sz S 1) 0 e) (sz S 1) 1 p) (sz S 1) 2 g)) fl5_ok [(93, .aload_n 0), (94, .iload 4), (96, .iconst 3), (97, .iconst 0)] (by decide +kernel) rfl rfl ?_
          refine g_callV (8, 0, 0) [vI (f 2), vI (3 : Int32), vI (0 : Int32)] [] vl_RX5_51 mi_X5_layArea (c_X5_layArea l (r := (sz S 1)) (c := 3) (0 : Int32) hna rfl (by omega) (by omega)) rfl rfl rfl rfl ⟨Nat.le_of_ble_eq_true rfl, Nat.le_of_ble_eq_true rfl⟩ rfl (Nat.le_of_ble_eq_true rfl) (by decide +kernel) (fun o σ4 hP => ?_)
          obtain ⟨rfl, rfl⟩ := hP
          refine g_blk (pc' := 106) (loc' := [some (vR (8, 0, 0)), some (vI e), some (vI p), some (vI g), some (vI (f 2))]) (st' := [vI (0 : Int32), vI (4 : Int32), vI (f 2), vR (8, 0, 0)]) (σ' := sa τ (sA (sA (sA (sA (upd f 2 ((f 2) + (1 : Int32))) (sz S 1) 0 e) (sz S 1) 1 p) (sz S 1) 2 g) (sz S 1) 3 (0 : Int32))) fl5_ok [(101, .aload_n 0), (102, .iload 4), (104, .iconst 4), (105, .iconst 0)] (by decide +kernel) rfl rfl ?_
          refine g_callV (8, 0, 0) [vI (f 2), vI (4 : Int32), vI (0 : Int32)] [] vl_RX5_51 mi_X5_layArea (c_X5_layArea l (r := (sz S 1)) (c := 4) (0 : Int32) hna rfl (by omega) (by omega)) rfl rfl rfl rfl ⟨Nat.le_of_ble_eq_true rfl, Nat.le_of_ble_eq_true rfl⟩ rfl (Nat.le_of_ble_eq_true rfl) (by decide +kernel) (fun o σ5 hP => ?_)
          obtain ⟨rfl, rfl⟩ := hP
          refine g_blk (pc' := 111) (loc' := [some (vR (8, 0, 0)), some (vI e), some (vI p), some (vI g), some (vI (f 2))]) (st' := [vI (f 2)]) (σ' := sa τ (sA (sA (sA (sA (sA (upd f 2 ((f 2) + (1 : Int32))) (sz S 1) 0 e) (sz S 1) 1 p) (sz S 1) 2 g) (sz S 1) 3 (0 : Int32)) (sz S 1) 4 (0 : Int32))) fl5_ok [(109, .iload 4)] (by decide +kernel) rfl rfl ?_
          have hx : xarea S Hs P e p g = (nI (sz S 1), kp S Hs P (addAreaS S e p g)) := by rw [xarea, if_neg zc7, if_neg zc16, if_pos zc27, if_pos zf]
          obtain ⟨en, e1, e2, hee⟩ := in_nat (a := 1) (b := 20) (by decide) (by decide) zc7
          obtain ⟨pn, p1, p2, hpe⟩ := in_nat (a := 1) (b := 4) (by decide) (by decide) zc16
          have hrow : sA (sA (sA (sA (sA (upd f 2 ((f 2) + (1 : Int32))) (sz S 1) 0 e) (sz S 1) 1 p) (sz S 1) 2 g) (sz S 1) 3 (0 : Int32)) (sz S 1) 4 (0 : Int32) = rowA f (sz S 1) e p g := by rw [rowA, ← nI_1, ← hna]
          rw [hx, hrow]
          exact g_iret (by decide +kernel) ⟨congrArg (fun z => some (vI z)) hna, τ, _, rfl, hK.2 _ _ _ (by omega) (e_addA hE hV.2.2.2.2.2.2 hlt e p g) (by rw [hee, hpe]; exact (v_addA hV hlt e1 e2 p1 p2).le (by omega)), hK.1⟩
        · have hge : 6 ≤ sz S 1 := by
            rw [hna] at zc41
            have := (nI_eq (b := 6) (by omega) (by decide)).mp zc41
            omega
          have zf : ¬ fullS S 1 = 0 := by rw [fullS, if_pos (show mst 1 ≤ sz S 1 from hge)]; decide
          refine g_blk (pc' := 46) (loc' := [some (vR (8, 0, 0)), some (vI e), some (vI p), some (vI g), none]) (st' := [vI (-4 : Int32)]) (σ' := sa σ f) fl5_ok [(44, .bipush (-4))] (by decide +kernel) rfl rfl ?_
          have hx : xarea S Hs P e p g = ((-4 : Int32), (S, (Hs, P))) := by rw [xarea, if_neg zc7, if_neg zc16, if_pos zc27, if_neg zf]
          rw [hx]
          exact g_iret (by decide +kernel) ⟨rfl, σ, f, rfl, h.le (by omega), FrM.rf⟩
      · refine g_blk (pc' := 32) (loc' := [some (vR (8, 0, 0)), some (vI e), some (vI p), some (vI g), none]) (st' := [vI (-2 : Int32)]) (σ' := sa σ f) fl5_ok [(30, .bipush (-2))] (by decide +kernel) rfl rfl ?_
        have hx : xarea S Hs P e p g = ((-2 : Int32), (S, (Hs, P))) := by rw [xarea, if_neg zc7, if_neg zc16, if_neg (not_not_intro zc27)]
        rw [hx]
        exact g_iret (by decide +kernel) ⟨rfl, σ, f, rfl, h.le (by omega), FrM.rf⟩
theorem hi4 {s : Int32} (h : nI 3 ≤ s) (h3 : ¬ s = 3) : nI 4 ≤ s := by
  rcases pk_ix s (n := 4) (by decide) with z | z | ⟨j, hj, rfl⟩
  · exact absurd (Int32.le_trans (nI_pos' (n := 3) (by decide)) h) (Int32.not_le.mpr z)
  · exact z
  · rw [nI_leI (by decide) (by omega)] at h
    exact absurd (by rw [show j = 3 by omega]; rfl) h3
set_option maxHeartbeats 2000000 in
theorem c_X5_takes (l : Launch) {σ : Sg} {f : Nat → Int32}  (s v : Int32) : Con l 1 yX5_takes cX5_takes 2 (some .boolean) [vI s, vI v] (sa σ f) (pureP (setOkS s v) (sa σ f)) := by
  refine con_of pn_X5_takes (Nat.le_of_ble_eq_true rfl) (fun hPK hok => ?_)
  show G l (Rm 1) RX5 cX5_takes 2 (some .boolean) _ 0 [some (vI s), some (vI v)] [] (sa σ f)
  refine g_blk (pc' := 1) (loc' := [some (vI s), some (vI v)]) (st' := [vI s]) (σ' := sa σ f) fl5_ok [(0, .iload_n 0)] (by decide +kernel) rfl rfl ?_
  rcases pk_ix s (n := 3) (by decide) with zq | zq | ⟨j, hj, rfl⟩
  · refine g_tabO (dflt := 43) (lo := 0) (hi := 2) (offs := #[27, 27, 35]) (len := 27) (tgt := 44) (by decide +kernel) (Or.inl (tab_lo zq)) (by decide) ?_
    refine g_blk (pc' := 46) (loc' := [some (vI s), some (vI v)]) (st' := [vI (3 : Int32), vI s]) (σ' := sa σ f) fl5_ok [(44, .iload_n 0), (45, .iconst 3)] (by decide +kernel) rfl rfl ?_
    refine g_icmp_ne (off := 18) (tgt := 64) (by decide +kernel) (by decide) (fun zc46 => ?_) (fun zc46 => ?_)
    · refine g_blk (pc' := 65) (loc' := [some (vI s), some (vI v)]) (st' := [vI (0 : Int32)]) (σ' := sa σ f) fl5_ok [(64, .iconst 0)] (by decide +kernel) rfl rfl ?_
      exact g_zret (by decide +kernel) (Or.inl rfl) (by rw [setOkS, sw_lo zq]; exact ⟨rfl, rfl⟩)
    · refine g_blk (pc' := 54) (loc' := [some (vI s), some (vI v)]) (st' := [vI (1000 : Int32), vI (1 : Int32), vI v]) (σ' := sa σ f) fl5_ok [(49, .iload_n 1), (50, .iconst 1), (51, .sipush 1000)] (by decide +kernel) rfl rfl ?_
      refine g_callSp [vI v, vI (1 : Int32), vI (1000 : Int32)] [] sl_RX5_29 mi_X5_in (c_X5_in l v (1 : Int32) (1000 : Int32)) rfl ⟨Nat.le_of_ble_eq_true rfl, Nat.le_of_ble_eq_true rfl⟩ rfl (Nat.le_of_ble_eq_true rfl) (by decide +kernel) ?_
      refine g_if_eq (off := 7) (tgt := 64) (by decide +kernel) (by decide) (fun zc57 => ?_) (fun zc57 => ?_)
      · refine g_blk (pc' := 65) (loc' := [some (vI s), some (vI v)]) (st' := [vI (0 : Int32)]) (σ' := sa σ f) fl5_ok [(64, .iconst 0)] (by decide +kernel) rfl rfl ?_
        exact absurd zq (by rw [zc46]; decide)
      · refine g_blk (pc' := 65) (loc' := [some (vI s), some (vI v)]) (st' := [vI (1 : Int32)]) (σ' := sa σ f) fl5_ok [(60, .iconst 1), (61, .goto 4)] (by decide +kernel) rfl rfl ?_
        exact absurd zq (by rw [zc46]; decide)
  · refine g_tabO (dflt := 43) (lo := 0) (hi := 2) (offs := #[27, 27, 35]) (len := 27) (tgt := 44) (by decide +kernel) (Or.inr (tab_hi 2 (by decide) zq)) (by decide) ?_
    refine g_blk (pc' := 46) (loc' := [some (vI s), some (vI v)]) (st' := [vI (3 : Int32), vI s]) (σ' := sa σ f) fl5_ok [(44, .iload_n 0), (45, .iconst 3)] (by decide +kernel) rfl rfl ?_
    refine g_icmp_ne (off := 18) (tgt := 64) (by decide +kernel) (by decide) (fun zc46 => ?_) (fun zc46 => ?_)
    · refine g_blk (pc' := 65) (loc' := [some (vI s), some (vI v)]) (st' := [vI (0 : Int32)]) (σ' := sa σ f) fl5_ok [(64, .iconst 0)] (by decide +kernel) rfl rfl ?_
      exact g_zret (by decide +kernel) (Or.inl rfl) (by rw [setOkS, sw_hi (hi4 zq zc46)]; exact ⟨rfl, rfl⟩)
    · refine g_blk (pc' := 54) (loc' := [some (vI s), some (vI v)]) (st' := [vI (1000 : Int32), vI (1 : Int32), vI v]) (σ' := sa σ f) fl5_ok [(49, .iload_n 1), (50, .iconst 1), (51, .sipush 1000)] (by decide +kernel) rfl rfl ?_
      refine g_callSp [vI v, vI (1 : Int32), vI (1000 : Int32)] [] sl_RX5_29 mi_X5_in (c_X5_in l v (1 : Int32) (1000 : Int32)) rfl ⟨Nat.le_of_ble_eq_true rfl, Nat.le_of_ble_eq_true rfl⟩ rfl (Nat.le_of_ble_eq_true rfl) (by decide +kernel) ?_
      refine g_if_eq (off := 7) (tgt := 64) (by decide +kernel) (by decide) (fun zc57 => ?_) (fun zc57 => ?_)
      · refine g_blk (pc' := 65) (loc' := [some (vI s), some (vI v)]) (st' := [vI (0 : Int32)]) (σ' := sa σ f) fl5_ok [(64, .iconst 0)] (by decide +kernel) rfl rfl ?_
        have h33 : setOkS s v = isInS v 1 1000 := by rw [zc46, setOkS, show (3 : Int32) = nI 3 from rfl, sw_in (by decide) (by decide)]; rfl
        exact g_zret (by decide +kernel) (Or.inl rfl) (by rw [h33, zc57]; exact ⟨rfl, rfl⟩)
      · refine g_blk (pc' := 65) (loc' := [some (vI s), some (vI v)]) (st' := [vI (1 : Int32)]) (σ' := sa σ f) fl5_ok [(60, .iconst 1), (61, .goto 4)] (by decide +kernel) rfl rfl ?_
        have h33 : setOkS s v = isInS v 1 1000 := by rw [zc46, setOkS, show (3 : Int32) = nI 3 from rfl, sw_in (by decide) (by decide)]; rfl
        exact g_zret (by decide +kernel) (Or.inr rfl) (by rw [h33, (isInS_bit v 1 1000).resolve_left zc57]; exact ⟨rfl, rfl⟩)
  · match j, hj with
    | 0, hj =>
      refine g_tabI (dflt := 43) (lo := 0) (hi := 2) (offs := #[27, 27, 35]) (len := 27) (off := 27) (tgt := 28) (by decide +kernel) (by decide) (by decide) rfl (by decide) ?_
      refine g_blk (pc' := 32) (loc' := [some (vI (nI 0)), some (vI v)]) (st' := [vI (100 : Int32), vI (0 : Int32), vI v]) (σ' := sa σ f) fl5_ok [(28, .iload_n 1), (29, .iconst 0), (30, .bipush 100)] (by decide +kernel) rfl rfl ?_
      refine g_callSp [vI v, vI (0 : Int32), vI (100 : Int32)] [] sl_RX5_29 mi_X5_in (c_X5_in l v (0 : Int32) (100 : Int32)) rfl ⟨Nat.le_of_ble_eq_true rfl, Nat.le_of_ble_eq_true rfl⟩ rfl (Nat.le_of_ble_eq_true rfl) (by decide +kernel) ?_
      exact g_zret (by decide +kernel) (isInS_bit _ _ _) (by rw [setOkS, sw_in (by decide) (by decide)]; exact ⟨rfl, rfl⟩)
    | 1, hj =>
      refine g_tabI (dflt := 43) (lo := 0) (hi := 2) (offs := #[27, 27, 35]) (len := 27) (off := 27) (tgt := 28) (by decide +kernel) (by decide) (by decide) rfl (by decide) ?_
      refine g_blk (pc' := 32) (loc' := [some (vI (nI 1)), some (vI v)]) (st' := [vI (100 : Int32), vI (0 : Int32), vI v]) (σ' := sa σ f) fl5_ok [(28, .iload_n 1), (29, .iconst 0), (30, .bipush 100)] (by decide +kernel) rfl rfl ?_
      refine g_callSp [vI v, vI (0 : Int32), vI (100 : Int32)] [] sl_RX5_29 mi_X5_in (c_X5_in l v (0 : Int32) (100 : Int32)) rfl ⟨Nat.le_of_ble_eq_true rfl, Nat.le_of_ble_eq_true rfl⟩ rfl (Nat.le_of_ble_eq_true rfl) (by decide +kernel) ?_
      exact g_zret (by decide +kernel) (isInS_bit _ _ _) (by rw [setOkS, sw_in (by decide) (by decide)]; exact ⟨rfl, rfl⟩)
    | 2, hj =>
      refine g_tabI (dflt := 43) (lo := 0) (hi := 2) (offs := #[27, 27, 35]) (len := 27) (off := 35) (tgt := 36) (by decide +kernel) (by decide) (by decide) rfl (by decide) ?_
      refine g_blk (pc' := 40) (loc' := [some (vI (nI 2)), some (vI v)]) (st' := [vI (6 : Int32), vI (2 : Int32), vI v]) (σ' := sa σ f) fl5_ok [(36, .iload_n 1), (37, .iconst 2), (38, .bipush 6)] (by decide +kernel) rfl rfl ?_
      refine g_callSp [vI v, vI (2 : Int32), vI (6 : Int32)] [] sl_RX5_29 mi_X5_in (c_X5_in l v (2 : Int32) (6 : Int32)) rfl ⟨Nat.le_of_ble_eq_true rfl, Nat.le_of_ble_eq_true rfl⟩ rfl (Nat.le_of_ble_eq_true rfl) (by decide +kernel) ?_
      exact g_zret (by decide +kernel) (isInS_bit _ _ _) (by rw [setOkS, sw_in (by decide) (by decide)]; exact ⟨rfl, rfl⟩)
    | j + 3, hj => exact absurd hj (by omega)
set_option maxHeartbeats 2000000 in
theorem m_set (l : Launch) {σ : Sg} {f : Nat → Int32} {S : HA} {Hs : List HA} {P : PV} {n : Nat} (h : Mq_ S Hs P n f σ) (hn : n ≤ 1000000) (s v : Int32) : Con l 2 yX5_set cX5_set 4 (some .int) [vR (8, 0, 0), vI s, vI v] (sa σ f) (Mp_ (xset S Hs P s v) n σ) := by
  obtain ⟨hE, hV, ⟨h3, h6⟩, hA, h5, hP⟩ := id h
  obtain ⟨hb0, hb1, hb2, hb3⟩ := hE.1
  have hnr := hE.2.2.1.1
  have hna := hE.2.2.1.2.1
  have hnt := hE.2.2.1.2.2.1
  have hns := hE.2.2.1.2.2.2
  refine con_of pn_X5_set (Nat.le_of_ble_eq_true rfl) (fun hPK hok => ?_)
  show G l (Rm 2) RX5 cX5_set 4 (some .int) _ 0 [some (vR (8, 0, 0)), some (vI s), some (vI v), none] [] (sa σ f)
  refine g_blk (pc' := 2) (loc' := [some (vR (8, 0, 0)), some (vI s), some (vI v), none]) (st' := [vI v, vI s]) (σ' := sa σ f) fl5_ok [(0, .iload_n 1), (1, .iload_n 2)] (by decide +kernel) rfl rfl ?_
  refine g_callSp [vI s, vI v] [] sl_RX5_54 mi_X5_takes (c_X5_takes l s v) rfl ⟨Nat.le_of_ble_eq_true rfl, Nat.le_of_ble_eq_true rfl⟩ rfl (Nat.le_of_ble_eq_true rfl) (by decide +kernel) ?_
  refine g_if_ne (off := 6) (tgt := 11) (by decide +kernel) (by decide) (fun zc5 => ?_) (fun zc5 => ?_)
  · obtain ⟨j, hj, rfl, hj2⟩ := set_ex zc5
    refine g_blk (pc' := 12) (loc' := [some (vR (8, 0, 0)), some (vI (nI j)), some (vI v), none]) (st' := [vR (8, 0, 0)]) (σ' := sa σ f) fl5_ok [(11, .aload_n 0)] (by decide +kernel) rfl rfl ?_
    refine g_callV (8, 0, 0) [] [] vl_RX5_33 mi_X5_keep (con_keep l h) rfl rfl rfl rfl ⟨Nat.le_of_ble_eq_true rfl, Nat.le_of_ble_eq_true rfl⟩ rfl (Nat.le_of_ble_eq_true rfl) (by decide +kernel) (fun o τ0 hP0 => ?_)
    obtain ⟨rfl, τ, rfl, hK⟩ := hP0
    refine g_blk (pc' := 17) (loc' := [some (vR (8, 0, 0)), some (vI (nI j)), some (vI v), none]) (st' := [vI (nI j), vR (8, 0, 0)]) (σ' := sa τ f) fl5_ok [(15, .aload_n 0), (16, .iload_n 1)] (by decide +kernel) rfl rfl ?_
    refine g_callVp (8, 0, 0) [vI (nI j)] [] vl_RX5_58 mi_X5_setting (c_X5_setting l (c := j) rfl (by omega)) rfl rfl rfl rfl ⟨Nat.le_of_ble_eq_true rfl, Nat.le_of_ble_eq_true rfl⟩ rfl (Nat.le_of_ble_eq_true rfl) (by decide +kernel) ?_
    refine g_blk (pc' := 30) (loc' := [some (vR (8, 0, 0)), some (vI (nI j)), some (vI v), some (vI (f (8 + j)))]) (st' := [vI v, vI ((8 : Int32) + (nI j)), vR (9, 0, 0)]) (σ' := sa τ f) fl5_ok [(20, .istore_n 3), (21, .aload_n 0), (22, .getfield 7), (25, .bipush 8), (27, .iload_n 1), (28, .iadd), (29, .iload_n 2)] (by decide +kernel) rfl rfl ?_
    refine g_sst (k := (8 + j)) (ix8 j) (by omega) (by decide +kernel) ?_
    refine g_blk (pc' := 32) (loc' := [some (vR (8, 0, 0)), some (vI (nI j)), some (vI v), some (vI (f (8 + j)))]) (st' := [vI (f (8 + j))]) (σ' := sa τ (upd f (8 + j) v)) fl5_ok [(31, .iload_n 3)] (by decide +kernel) rfl rfl ?_
    have hx : xset S Hs P (nI j) v = (cl S 4 0 (nI j), kp S Hs P (wr S 4 0 (nI j) v)) := by rw [xset, if_pos zc5]
    rw [hx, set_cl hE hj, set_wr hV.1.2.2.1 hj]
    exact g_iret (by decide +kernel) ⟨rfl, τ, _, rfl, hK.2 _ _ _ (by omega) (e_set hE hj v) ((v_set hV hj2).le (by omega)), hK.1⟩
  · refine g_blk (pc' := 10) (loc' := [some (vR (8, 0, 0)), some (vI s), some (vI v), none]) (st' := [vI (-2 : Int32)]) (σ' := sa σ f) fl5_ok [(8, .bipush (-2))] (by decide +kernel) rfl rfl ?_
    have hx : xset S Hs P s v = ((-2 : Int32), (S, (Hs, P))) := by rw [xset, if_neg (not_not_intro zc5)]
    rw [hx]
    exact g_iret (by decide +kernel) ⟨rfl, σ, f, rfl, h.le (by omega), FrM.rf⟩
set_option maxHeartbeats 2000000 in
theorem m_plan (l : Launch) {σ : Sg} {f : Nat → Int32} {S : HA} {Hs : List HA} {P : PV} {n : Nat} (h : Mq_ S Hs P n f σ) (hn : n ≤ 1000000)  : Con l 5 yX5_plan cX5_plan 1 (some .int) [vR (8, 0, 0)] (sa σ f) (Mp_ (xplan S Hs P) n σ) := by
  obtain ⟨hE, hV, ⟨h3, h6⟩, hA, h5, hP⟩ := id h
  obtain ⟨hb0, hb1, hb2, hb3⟩ := hE.1
  have hnr := hE.2.2.1.1
  have hna := hE.2.2.1.2.1
  have hnt := hE.2.2.1.2.2.1
  have hns := hE.2.2.1.2.2.2
  refine con_of pn_X5_plan (Nat.le_of_ble_eq_true rfl) (fun hPK hok => ?_)
  show G l (Rm 5) RX5 cX5_plan 1 (some .int) _ 0 [some (vR (8, 0, 0))] [] (sa σ f)
  refine g_blk (pc' := 7) (loc' := [some (vR (8, 0, 0))]) (st' := [vI (1 : Int32), vI (f 4)]) (σ' := sa σ f) fl5_ok [(0, .aload_n 0), (1, .getfield 7), (4, .iconst 4), (5, .iaload), (6, .iconst 1)] (by decide +kernel) rfl rfl ?_
  refine g_icmp_ne (off := 6) (tgt := 13) (by decide +kernel) (by decide) (fun zc7 => ?_) (fun zc7 => ?_)
  · have h4 : f 4 = S.2 6 := hE.2.1.2.1
    have z6 : S.2 6 = 0 := hV.1.1.1.resolve_right (fun z => zc7 (h4.trans z))
    refine g_blk (pc' := 14) (loc' := [some (vR (8, 0, 0))]) (st' := [vR (8, 0, 0)]) (σ' := sa σ f) fl5_ok [(13, .aload_n 0)] (by decide +kernel) rfl rfl ?_
    refine g_callV (8, 0, 0) [] [] vl_RX5_33 mi_X5_keep (con_keep l h) rfl rfl rfl rfl ⟨Nat.le_of_ble_eq_true rfl, Nat.le_of_ble_eq_true rfl⟩ rfl (Nat.le_of_ble_eq_true rfl) (by decide +kernel) (fun o τ0 hP0 => ?_)
    obtain ⟨rfl, τ, rfl, hK⟩ := hP0
    refine g_blk (pc' := 18) (loc' := [some (vR (8, 0, 0))]) (st' := [vR (8, 0, 0)]) (σ' := sa τ f) fl5_ok [(17, .aload_n 0)] (by decide +kernel) rfl rfl ?_
    refine g_callV (8, 0, 0) [] [] vl_RX5_92 mi_X5_makePlan (c_X5_makePlan l (nr := sz S 0) (na := sz S 1) hnr hb0 hna hb1 (per_ne hE hV)) rfl rfl rfl rfl ⟨Nat.le_of_ble_eq_true rfl, Nat.le_of_ble_eq_true rfl⟩ rfl (Nat.le_of_ble_eq_true rfl) (by decide +kernel) (fun o σ1 hP => ?_)
    obtain ⟨rfl, rfl⟩ := hP
    obtain ⟨pE, pV, p2, p3⟩ := plan_ok hE hV (hV.1.1.2 z6)
    have hx : xplan S Hs P = (nI (sz (planS S) 2), kp S Hs P (planS S)) := by rw [xplan, if_pos z6]
    rw [hx]
    exact g_iret (by decide +kernel) ⟨congrArg (fun z => some (vI (nI z))) p2, τ, _, rfl, hK.2 _ _ _ (by omega) pE pV, hK.1⟩
  · have h4 : f 4 = S.2 6 := hE.2.1.2.1
    have z6 : ¬ S.2 6 = 0 := by rw [← h4, zc7]; decide
    refine g_blk (pc' := 12) (loc' := [some (vR (8, 0, 0))]) (st' := [vI (-5 : Int32)]) (σ' := sa σ f) fl5_ok [(10, .bipush (-5))] (by decide +kernel) rfl rfl ?_
    have hx : xplan S Hs P = ((-5 : Int32), (S, (Hs, P))) := by rw [xplan, if_neg z6]
    rw [hx]
    exact g_iret (by decide +kernel) ⟨rfl, σ, f, rfl, h.le (by omega), FrM.rf⟩
set_option maxHeartbeats 2000000 in
theorem m_done (l : Launch) {σ : Sg} {f : Nat → Int32} {S : HA} {Hs : List HA} {P : PV} {n : Nat} (h : Mq_ S Hs P n f σ) (hn : n ≤ 1000000) (t : Int32) : Con l 3 yX5_done cX5_done 2 (some .int) [vR (8, 0, 0), vI t] (sa σ f) (Mp_ (xdone S Hs P t) n σ) := by
  obtain ⟨hE, hV, ⟨h3, h6⟩, hA, h5, hP⟩ := id h
  obtain ⟨hb0, hb1, hb2, hb3⟩ := hE.1
  have hnr := hE.2.2.1.1
  have hna := hE.2.2.1.2.1
  have hnt := hE.2.2.1.2.2.1
  have hns := hE.2.2.1.2.2.2
  refine con_of pn_X5_done (Nat.le_of_ble_eq_true rfl) (fun hPK hok => ?_)
  show G l (Rm 3) RX5 cX5_done 2 (some .int) _ 0 [some (vR (8, 0, 0)), some (vI t)] [] (sa σ f)
  refine g_blk (pc' := 2) (loc' := [some (vR (8, 0, 0)), some (vI t)]) (st' := [vI t, vR (8, 0, 0)]) (σ' := sa σ f) fl5_ok [(0, .aload_n 0), (1, .iload_n 1)] (by decide +kernel) rfl rfl ?_
  refine g_callVp (8, 0, 0) [vI t] [] vl_RX5_112 mi_X5_isTask (c_X5_isTask l (n := (sz S 2)) t hnt (by omega)) rfl rfl rfl rfl ⟨Nat.le_of_ble_eq_true rfl, Nat.le_of_ble_eq_true rfl⟩ rfl (Nat.le_of_ble_eq_true rfl) (by decide +kernel) ?_
  refine g_if_ne (off := 5) (tgt := 10) (by decide +kernel) (by decide) (fun zc5 => ?_) (fun zc5 => ?_)
  · obtain ⟨k, hk, rfl⟩ := has_ex (by omega) zc5
    refine g_blk (pc' := 13) (loc' := [some (vR (8, 0, 0)), some (vI (nI k))]) (st' := [vI (3 : Int32), vI (nI k), vR (8, 0, 0)]) (σ' := sa σ f) fl5_ok [(10, .aload_n 0), (11, .iload_n 1), (12, .iconst 3)] (by decide +kernel) rfl rfl ?_
    refine g_callVp (8, 0, 0) [vI (nI k), vI (3 : Int32)] [] vl_RX5_65 mi_X5_ofTask (c_X5_ofTask l (r := k) (c := 3) rfl rfl (by omega) (by omega)) rfl rfl rfl rfl ⟨Nat.le_of_ble_eq_true rfl, Nat.le_of_ble_eq_true rfl⟩ rfl (Nat.le_of_ble_eq_true rfl) (by decide +kernel) ?_
    refine g_blk (pc' := 17) (loc' := [some (vR (8, 0, 0)), some (vI (nI k))]) (st' := [vI (1 : Int32), vI (mk f k 3)]) (σ' := sa σ f) fl5_ok [(16, .iconst 1)] (by decide +kernel) rfl rfl ?_
    refine g_icmp_ne (off := 6) (tgt := 23) (by decide +kernel) (by decide) (fun zc17 => ?_) (fun zc17 => ?_)
    · have hk3 := hE.2.2.2.2.2.2.1 k 3 hk (by decide)
      have ho : ce S 2 k 3 = 0 := (hV.2.2.2.1 k hk).2.2.2.1.resolve_right (fun z => zc17 (hk3.trans z))
      have zo : ¬ openS S (nI k) = 0 := by rw [open_n (by omega) hk, if_pos ho]; decide
      refine g_blk (pc' := 24) (loc' := [some (vR (8, 0, 0)), some (vI (nI k))]) (st' := [vR (8, 0, 0)]) (σ' := sa σ f) fl5_ok [(23, .aload_n 0)] (by decide +kernel) rfl rfl ?_
      refine g_callV (8, 0, 0) [] [] vl_RX5_33 mi_X5_keep (con_keep l h) rfl rfl rfl rfl ⟨Nat.le_of_ble_eq_true rfl, Nat.le_of_ble_eq_true rfl⟩ rfl (Nat.le_of_ble_eq_true rfl) (by decide +kernel) (fun o τ0 hP0 => ?_)
      obtain ⟨rfl, τ, rfl, hK⟩ := hP0
      refine g_blk (pc' := 29) (loc' := [some (vR (8, 0, 0)), some (vI (nI k))]) (st' := [vI (nI k), vR (8, 0, 0)]) (σ' := sa τ f) fl5_ok [(27, .aload_n 0), (28, .iload_n 1)] (by decide +kernel) rfl rfl ?_
      obtain ⟨r, a, hr, ha, hkr, hka, fE, fV, f2, -⟩ := fin_ok hE hV hk ho
      refine g_callV (8, 0, 0) [vI (nI k)] [] vl_RX5_115 mi_X5_finish (c_X5_finish l (t := k) (nt := sz S 2) (ns := sz S 3) (r := r) (a := a) rfl (by omega) hnt hb2 hns hb3 hkr hr hka ha) rfl rfl rfl rfl ⟨Nat.le_of_ble_eq_true rfl, Nat.le_of_ble_eq_true rfl⟩ rfl (Nat.le_of_ble_eq_true rfl) (by decide +kernel) (fun o σ1 hP => ?_)
      obtain ⟨rfl, rfl⟩ := hP
      have hx : xdone S Hs P (nI k) = (cl S 2 (nI k) 2, kp S Hs P (finS S (nI k))) := by rw [xdone, if_pos zc5, if_pos zo]
      rw [hx, cl2 (by omega)]
      exact g_iret (by decide +kernel) ⟨congrArg (fun z => some (vI z)) f2, τ, _, rfl, hK.2 _ _ _ (by omega) fE (fV.le (by omega)), hK.1⟩
    · have hk3 := hE.2.2.2.2.2.2.1 k 3 hk (by decide)
      have zo : openS S (nI k) = 0 := by rw [open_n (by omega) hk, if_neg (by rw [← hk3, zc17]; decide)]
      refine g_blk (pc' := 22) (loc' := [some (vR (8, 0, 0)), some (vI (nI k))]) (st' := [vI (-5 : Int32)]) (σ' := sa σ f) fl5_ok [(20, .bipush (-5))] (by decide +kernel) rfl rfl ?_
      have hx : xdone S Hs P (nI k) = ((-5 : Int32), (S, (Hs, P))) := by rw [xdone, if_pos zc5, if_neg (not_not_intro zo)]
      rw [hx]
      exact g_iret (by decide +kernel) ⟨rfl, σ, f, rfl, h.le (by omega), FrM.rf⟩
  · refine g_blk (pc' := 9) (loc' := [some (vR (8, 0, 0)), some (vI t)]) (st' := [vI (-1 : Int32)]) (σ' := sa σ f) fl5_ok [(8, .iconst (-1))] (by decide +kernel) rfl rfl ?_
    have hx : xdone S Hs P t = ((-1 : Int32), (S, (Hs, P))) := by rw [xdone, if_neg (not_not_intro zc5)]
    rw [hx]
    exact g_iret (by decide +kernel) ⟨rfl, σ, f, rfl, h.le (by omega), FrM.rf⟩
theorem sz_pay {S : HA} {r a : Nat} (hb : EB S) (hr : r < sz S 0) (ha : a < sz S 1) : sz (payS S (nI r) (nI a)) 0 = sz S 0 := by rw [pay_eq hb hr ha, payN, sz_W, sz_W, clN, sz_W, sz_W]
set_option maxHeartbeats 2000000 in
theorem m_extra (l : Launch) {σ : Sg} {f : Nat → Int32} {S : HA} {Hs : List HA} {P : PV} {n : Nat} (h : Mq_ S Hs P n f σ) (hn : n ≤ 1000000) (r a : Int32) : Con l 2 yX5_extra cX5_extra 4 (some .int) [vR (8, 0, 0), vI r, vI a] (sa σ f) (Mp_ (xextra S Hs P r a) n σ) := by
  obtain ⟨hE, hV, ⟨h3, h6⟩, hA, h5, hP⟩ := id h
  obtain ⟨hb0, hb1, hb2, hb3⟩ := hE.1
  have hnr := hE.2.2.1.1
  have hna := hE.2.2.1.2.1
  have hnt := hE.2.2.1.2.2.1
  have hns := hE.2.2.1.2.2.2
  refine con_of pn_X5_extra (Nat.le_of_ble_eq_true rfl) (fun hPK hok => ?_)
  show G l (Rm 2) RX5 cX5_extra 4 (some .int) _ 0 [some (vR (8, 0, 0)), some (vI r), some (vI a), none] [] (sa σ f)
  refine g_blk (pc' := 2) (loc' := [some (vR (8, 0, 0)), some (vI r), some (vI a), none]) (st' := [vI r, vR (8, 0, 0)]) (σ' := sa σ f) fl5_ok [(0, .aload_n 0), (1, .iload_n 1)] (by decide +kernel) rfl rfl ?_
  refine g_callVp (8, 0, 0) [vI r] [] vl_RX5_40 mi_X5_isResident (c_X5_isResident l (n := (sz S 0)) r hnr (by omega)) rfl rfl rfl rfl ⟨Nat.le_of_ble_eq_true rfl, Nat.le_of_ble_eq_true rfl⟩ rfl (Nat.le_of_ble_eq_true rfl) (by decide +kernel) ?_
  refine g_if_eq (off := 11) (tgt := 16) (by decide +kernel) (by decide) (fun zc5 => ?_) (fun zc5 => ?_)
  · refine g_blk (pc' := 17) (loc' := [some (vR (8, 0, 0)), some (vI r), some (vI a), none]) (st' := [vI (-1 : Int32)]) (σ' := sa σ f) fl5_ok [(16, .iconst (-1))] (by decide +kernel) rfl rfl ?_
    have hx : xextra S Hs P r a = ((-1 : Int32), (S, (Hs, P))) := by rw [xextra, if_pos zc5]
    rw [hx]
    exact g_iret (by decide +kernel) ⟨rfl, σ, f, rfl, h.le (by omega), FrM.rf⟩
  · obtain ⟨k, hk, rfl⟩ := has_ex (by omega) zc5
    refine g_blk (pc' := 10) (loc' := [some (vR (8, 0, 0)), some (vI (nI k)), some (vI a), none]) (st' := [vI a, vR (8, 0, 0)]) (σ' := sa σ f) fl5_ok [(8, .aload_n 0), (9, .iload_n 2)] (by decide +kernel) rfl rfl ?_
    refine g_callVp (8, 0, 0) [vI a] [] vl_RX5_118 mi_X5_isArea (c_X5_isArea l (n := (sz S 1)) a hna (by omega)) rfl rfl rfl rfl ⟨Nat.le_of_ble_eq_true rfl, Nat.le_of_ble_eq_true rfl⟩ rfl (Nat.le_of_ble_eq_true rfl) (by decide +kernel) ?_
    refine g_if_ne (off := 5) (tgt := 18) (by decide +kernel) (by decide) (fun zc13 => ?_) (fun zc13 => ?_)
    · obtain ⟨q, hq, rfl⟩ := has_ex (by omega) zc13
      refine g_blk (pc' := 21) (loc' := [some (vR (8, 0, 0)), some (vI (nI k)), some (vI (nI q)), none]) (st' := [vI (2 : Int32), vI (nI k), vR (8, 0, 0)]) (σ' := sa σ f) fl5_ok [(18, .aload_n 0), (19, .iload_n 1), (20, .iconst 2)] (by decide +kernel) rfl rfl ?_
      refine g_callVp (8, 0, 0) [vI (nI k), vI (2 : Int32)] [] vl_RX5_44 mi_X5_of (c_X5_of l (r := k) (c := 2) rfl rfl (by omega) (by omega)) rfl rfl rfl rfl ⟨Nat.le_of_ble_eq_true rfl, Nat.le_of_ble_eq_true rfl⟩ rfl (Nat.le_of_ble_eq_true rfl) (by decide +kernel) ?_
      refine g_if_eq (off := 11) (tgt := 35) (by decide +kernel) (by decide) (fun zc24 => ?_) (fun zc24 => ?_)
      · have hkd : cl S 0 (nI k) 4 = mo f k 2 := by rw [cl4 (by omega)]; exact (hE.2.2.2.2.1 k hk).2.2.1.symm
        rw [← hkd] at zc24
        refine g_blk (pc' := 37) (loc' := [some (vR (8, 0, 0)), some (vI (nI k)), some (vI (nI q)), none]) (st' := [vI (-5 : Int32)]) (σ' := sa σ f) fl5_ok [(35, .bipush (-5))] (by decide +kernel) rfl rfl ?_
        have hx : xextra S Hs P (nI k) (nI q) = ((-5 : Int32), (S, (Hs, P))) := by rw [xextra, if_neg zc5, if_pos zc13, if_pos zc24]
        rw [hx]
        exact g_iret (by decide +kernel) ⟨rfl, σ, f, rfl, h.le (by omega), FrM.rf⟩
      · have hkd : cl S 0 (nI k) 4 = mo f k 2 := by rw [cl4 (by omega)]; exact (hE.2.2.2.2.1 k hk).2.2.1.symm
        rw [← hkd] at zc24
        refine g_blk (pc' := 29) (loc' := [some (vR (8, 0, 0)), some (vI (nI k)), some (vI (nI q)), none]) (st' := [vI (nI k), vR (8, 0, 0)]) (σ' := sa σ f) fl5_ok [(27, .aload_n 0), (28, .iload_n 1)] (by decide +kernel) rfl rfl ?_
        refine g_callVp (8, 0, 0) [vI (nI k)] [] vl_RX5_48 mi_X5_isAway (c_X5_isAway l (r := k) rfl (by omega)) rfl rfl rfl rfl ⟨Nat.le_of_ble_eq_true rfl, Nat.le_of_ble_eq_true rfl⟩ rfl (Nat.le_of_ble_eq_true rfl) (by decide +kernel) ?_
        refine g_if_eq (off := 6) (tgt := 38) (by decide +kernel) (by decide) (fun zc32 => ?_) (fun zc32 => ?_)
        · rw [away_eq hE hV hk] at zc32
          refine g_blk (pc' := 39) (loc' := [some (vR (8, 0, 0)), some (vI (nI k)), some (vI (nI q)), none]) (st' := [vR (8, 0, 0)]) (σ' := sa σ f) fl5_ok [(38, .aload_n 0)] (by decide +kernel) rfl rfl ?_
          refine g_callV (8, 0, 0) [] [] vl_RX5_33 mi_X5_keep (con_keep l h) rfl rfl rfl rfl ⟨Nat.le_of_ble_eq_true rfl, Nat.le_of_ble_eq_true rfl⟩ rfl (Nat.le_of_ble_eq_true rfl) (by decide +kernel) (fun o τ0 hP0 => ?_)
          obtain ⟨rfl, τ, rfl, hK⟩ := hP0
          refine g_blk (pc' := 45) (loc' := [some (vR (8, 0, 0)), some (vI (nI k)), some (vI (nI q)), none]) (st' := [vI (2 : Int32), vI (nI k), vR (8, 0, 0)]) (σ' := sa τ f) fl5_ok [(42, .aload_n 0), (43, .iload_n 1), (44, .iconst 2)] (by decide +kernel) rfl rfl ?_
          refine g_callVp (8, 0, 0) [vI (nI k), vI (2 : Int32)] [] vl_RX5_44 mi_X5_of (c_X5_of l (r := k) (c := 2) rfl rfl (by omega) (by omega)) rfl rfl rfl rfl ⟨Nat.le_of_ble_eq_true rfl, Nat.le_of_ble_eq_true rfl⟩ rfl (Nat.le_of_ble_eq_true rfl) (by decide +kernel) ?_
          refine g_blk (pc' := 51) (loc' := [some (vR (8, 0, 0)), some (vI (nI k)), some (vI (nI q)), none]) (st' := [vI (0 : Int32), vI (nI q), vR (8, 0, 0), vI (mo f k 2)]) (σ' := sa τ f) fl5_ok [(48, .aload_n 0), (49, .iload_n 2), (50, .iconst 0)] (by decide +kernel) rfl rfl ?_
          refine g_callVp (8, 0, 0) [vI (nI q), vI (0 : Int32)] [vI (mo f k 2)] vl_RX5_62 mi_X5_ofArea (c_X5_ofArea l (r := q) (c := 0) rfl rfl (by omega) (by omega)) rfl rfl rfl rfl ⟨Nat.le_of_ble_eq_true rfl, Nat.le_of_ble_eq_true rfl⟩ rfl (Nat.le_of_ble_eq_true rfl) (by decide +kernel) ?_
          refine g_icmp_ge (off := 12) (tgt := 66) (by decide +kernel) (by decide) (fun zc54 => ?_) (fun zc54 => ?_)
          · refine g_blk (pc' := 69) (loc' := [some (vR (8, 0, 0)), some (vI (nI k)), some (vI (nI q)), none]) (st' := [vI (0 : Int32), vI (nI q), vR (8, 0, 0)]) (σ' := sa τ f) fl5_ok [(66, .aload_n 0), (67, .iload_n 2), (68, .iconst 0)] (by decide +kernel) rfl rfl ?_
            refine g_callVp (8, 0, 0) [vI (nI q), vI (0 : Int32)] [] vl_RX5_62 mi_X5_ofArea (c_X5_ofArea l (r := q) (c := 0) rfl rfl (by omega) (by omega)) rfl rfl rfl rfl ⟨Nat.le_of_ble_eq_true rfl, Nat.le_of_ble_eq_true rfl⟩ rfl (Nat.le_of_ble_eq_true rfl) (by decide +kernel) ?_
            refine g_blk (pc' := 75) (loc' := [some (vR (8, 0, 0)), some (vI (nI k)), some (vI (nI q)), some (vI (ma f q 0))]) (st' := [vI (nI q), vR (8, 0, 0)]) (σ' := sa τ f) fl5_ok [(72, .istore_n 3), (73, .aload_n 0), (74, .iload_n 2)] (by decide +kernel) rfl rfl ?_
            refine g_callV (8, 0, 0) [vI (nI q)] [] vl_RX5_106 mi_X5_clean (c_X5_clean l (a := q) rfl (by omega)) rfl rfl rfl rfl ⟨Nat.le_of_ble_eq_true rfl, Nat.le_of_ble_eq_true rfl⟩ rfl (Nat.le_of_ble_eq_true rfl) (by decide +kernel) (fun o σ1 hP => ?_)
            obtain ⟨rfl, rfl⟩ := hP
            refine g_blk (pc' := 84) (loc' := [some (vR (8, 0, 0)), some (vI (nI k)), some (vI (nI q)), some (vI (ma f q 0))]) (st' := [vI (2 : Int32), vI (nI k), vR (8, 0, 0), vI (2 : Int32), vI (nI k), vR (8, 0, 0)]) (σ' := sa τ (cleanM f q)) fl5_ok [(78, .aload_n 0), (79, .iload_n 1), (80, .iconst 2), (81, .aload_n 0), (82, .iload_n 1), (83, .iconst 2)] (by decide +kernel) rfl rfl ?_
            refine g_callVp (8, 0, 0) [vI (nI k), vI (2 : Int32)] [vI (2 : Int32), vI (nI k), vR (8, 0, 0)] vl_RX5_44 mi_X5_of (c_X5_of l (r := k) (c := 2) rfl rfl (by omega) (by omega)) rfl rfl rfl rfl ⟨Nat.le_of_ble_eq_true rfl, Nat.le_of_ble_eq_true rfl⟩ rfl (Nat.le_of_ble_eq_true rfl) (by decide +kernel) ?_
            refine g_blk (pc' := 89) (loc' := [some (vR (8, 0, 0)), some (vI (nI k)), some (vI (nI q)), some (vI (ma f q 0))]) (st' := [vI ((mo (cleanM f q) k 2) - (ma f q 0)), vI (2 : Int32), vI (nI k), vR (8, 0, 0)]) (σ' := sa τ (cleanM f q)) fl5_ok [(87, .iload_n 3), (88, .isub)] (by decide +kernel) rfl rfl ?_
            refine g_callV (8, 0, 0) [vI (nI k), vI (2 : Int32), vI ((mo (cleanM f q) k 2) - (ma f q 0))] [] vl_RX5_36 mi_X5_lay (c_X5_lay l (r := k) (c := 2) ((mo (cleanM f q) k 2) - (ma f q 0)) rfl rfl (by omega) (by omega)) rfl rfl rfl rfl ⟨Nat.le_of_ble_eq_true rfl, Nat.le_of_ble_eq_true rfl⟩ rfl (Nat.le_of_ble_eq_true rfl) (by decide +kernel) (fun o σ2 hP => ?_)
            obtain ⟨rfl, rfl⟩ := hP
            refine g_blk (pc' := 98) (loc' := [some (vR (8, 0, 0)), some (vI (nI k)), some (vI (nI q)), some (vI (ma f q 0))]) (st' := [vI (1 : Int32), vI (nI k), vR (8, 0, 0), vI (1 : Int32), vI (nI k), vR (8, 0, 0)]) (σ' := sa τ (so (cleanM f q) k 2 ((mo (cleanM f q) k 2) - (ma f q 0)))) fl5_ok [(92, .aload_n 0), (93, .iload_n 1), (94, .iconst 1), (95, .aload_n 0), (96, .iload_n 1), (97, .iconst 1)] (by decide +kernel) rfl rfl ?_
            refine g_callVp (8, 0, 0) [vI (nI k), vI (1 : Int32)] [vI (1 : Int32), vI (nI k), vR (8, 0, 0)] vl_RX5_44 mi_X5_of (c_X5_of l (r := k) (c := 1) rfl rfl (by omega) (by omega)) rfl rfl rfl rfl ⟨Nat.le_of_ble_eq_true rfl, Nat.le_of_ble_eq_true rfl⟩ rfl (Nat.le_of_ble_eq_true rfl) (by decide +kernel) ?_
            refine g_blk (pc' := 103) (loc' := [some (vR (8, 0, 0)), some (vI (nI k)), some (vI (nI q)), some (vI (ma f q 0))]) (st' := [vI ((mo (so (cleanM f q) k 2 ((mo (cleanM f q) k 2) - (ma f q 0))) k 1) + (ma f q 0)), vI (1 : Int32), vI (nI k), vR (8, 0, 0)]) (σ' := sa τ (so (cleanM f q) k 2 ((mo (cleanM f q) k 2) - (ma f q 0)))) fl5_ok [(101, .iload_n 3), (102, .iadd)] (by decide +kernel) rfl rfl ?_
            refine g_callV (8, 0, 0) [vI (nI k), vI (1 : Int32), vI ((mo (so (cleanM f q) k 2 ((mo (cleanM f q) k 2) - (ma f q 0))) k 1) + (ma f q 0))] [] vl_RX5_36 mi_X5_lay (c_X5_lay l (r := k) (c := 1) ((mo (so (cleanM f q) k 2 ((mo (cleanM f q) k 2) - (ma f q 0))) k 1) + (ma f q 0)) rfl rfl (by omega) (by omega)) rfl rfl rfl rfl ⟨Nat.le_of_ble_eq_true rfl, Nat.le_of_ble_eq_true rfl⟩ rfl (Nat.le_of_ble_eq_true rfl) (by decide +kernel) (fun o σ3 hP => ?_)
            obtain ⟨rfl, rfl⟩ := hP
            refine g_blk (pc' := 109) (loc' := [some (vR (8, 0, 0)), some (vI (nI k)), some (vI (nI q)), some (vI (ma f q 0))]) (st' := [vI (2 : Int32), vI (nI k), vR (8, 0, 0)]) (σ' := sa τ (so (so (cleanM f q) k 2 ((mo (cleanM f q) k 2) - (ma f q 0))) k 1 ((mo (so (cleanM f q) k 2 ((mo (cleanM f q) k 2) - (ma f q 0))) k 1) + (ma f q 0)))) fl5_ok [(106, .aload_n 0), (107, .iload_n 1), (108, .iconst 2)] (by decide +kernel) rfl rfl ?_
            refine g_callVp (8, 0, 0) [vI (nI k), vI (2 : Int32)] [] vl_RX5_44 mi_X5_of (c_X5_of l (r := k) (c := 2) rfl rfl (by omega) (by omega)) rfl rfl rfl rfl ⟨Nat.le_of_ble_eq_true rfl, Nat.le_of_ble_eq_true rfl⟩ rfl (Nat.le_of_ble_eq_true rfl) (by decide +kernel) ?_
            have hx : xextra S Hs P (nI k) (nI q) = (cl (payS S (nI k) (nI q)) 0 (nI k) 4, kp S Hs P (payS S (nI k) (nI q))) := by rw [xextra, if_neg zc5, if_pos zc13, if_neg zc24, if_pos zc32]
            have hrow : so (so (cleanM f q) k 2 ((mo (cleanM f q) k 2) - (ma f q 0))) k 1 ((mo (so (cleanM f q) k 2 ((mo (cleanM f q) k 2) - (ma f q 0))) k 1) + (ma f q 0)) = ext f k q := by unfold ext; simp only; rw [if_pos zc54]
            have E1 := e_pay hE hk hq
            have V1 := v_pay hV (by omega) hk hq
            rw [hx, hrow, cl4 (by omega)]
            exact g_iret (by decide +kernel) ⟨congrArg (fun z => some (vI z)) (E1.2.2.2.2.1 k (by rw [sz_pay hE.1 hk hq]; exact hk)).2.2.1, τ, _, rfl, hK.2 _ _ _ (by omega) E1 (V1.le (by omega)), hK.1⟩
          · refine g_blk (pc' := 60) (loc' := [some (vR (8, 0, 0)), some (vI (nI k)), some (vI (nI q)), none]) (st' := [vI (2 : Int32), vI (nI k), vR (8, 0, 0)]) (σ' := sa τ f) fl5_ok [(57, .aload_n 0), (58, .iload_n 1), (59, .iconst 2)] (by decide +kernel) rfl rfl ?_
            refine g_callVp (8, 0, 0) [vI (nI k), vI (2 : Int32)] [] vl_RX5_44 mi_X5_of (c_X5_of l (r := k) (c := 2) rfl rfl (by omega) (by omega)) rfl rfl rfl rfl ⟨Nat.le_of_ble_eq_true rfl, Nat.le_of_ble_eq_true rfl⟩ rfl (Nat.le_of_ble_eq_true rfl) (by decide +kernel) ?_
            refine g_blk (pc' := 75) (loc' := [some (vR (8, 0, 0)), some (vI (nI k)), some (vI (nI q)), some (vI (mo f k 2))]) (st' := [vI (nI q), vR (8, 0, 0)]) (σ' := sa τ f) fl5_ok [(63, .goto 9), (72, .istore_n 3), (73, .aload_n 0), (74, .iload_n 2)] (by decide +kernel) rfl rfl ?_
            refine g_callV (8, 0, 0) [vI (nI q)] [] vl_RX5_106 mi_X5_clean (c_X5_clean l (a := q) rfl (by omega)) rfl rfl rfl rfl ⟨Nat.le_of_ble_eq_true rfl, Nat.le_of_ble_eq_true rfl⟩ rfl (Nat.le_of_ble_eq_true rfl) (by decide +kernel) (fun o σ4 hP => ?_)
            obtain ⟨rfl, rfl⟩ := hP
            refine g_blk (pc' := 84) (loc' := [some (vR (8, 0, 0)), some (vI (nI k)), some (vI (nI q)), some (vI (mo f k 2))]) (st' := [vI (2 : Int32), vI (nI k), vR (8, 0, 0), vI (2 : Int32), vI (nI k), vR (8, 0, 0)]) (σ' := sa τ (cleanM f q)) fl5_ok [(78, .aload_n 0), (79, .iload_n 1), (80, .iconst 2), (81, .aload_n 0), (82, .iload_n 1), (83, .iconst 2)] (by decide +kernel) rfl rfl ?_
            refine g_callVp (8, 0, 0) [vI (nI k), vI (2 : Int32)] [vI (2 : Int32), vI (nI k), vR (8, 0, 0)] vl_RX5_44 mi_X5_of (c_X5_of l (r := k) (c := 2) rfl rfl (by omega) (by omega)) rfl rfl rfl rfl ⟨Nat.le_of_ble_eq_true rfl, Nat.le_of_ble_eq_true rfl⟩ rfl (Nat.le_of_ble_eq_true rfl) (by decide +kernel) ?_
            refine g_blk (pc' := 89) (loc' := [some (vR (8, 0, 0)), some (vI (nI k)), some (vI (nI q)), some (vI (mo f k 2))]) (st' := [vI ((mo (cleanM f q) k 2) - (mo f k 2)), vI (2 : Int32), vI (nI k), vR (8, 0, 0)]) (σ' := sa τ (cleanM f q)) fl5_ok [(87, .iload_n 3), (88, .isub)] (by decide +kernel) rfl rfl ?_
            refine g_callV (8, 0, 0) [vI (nI k), vI (2 : Int32), vI ((mo (cleanM f q) k 2) - (mo f k 2))] [] vl_RX5_36 mi_X5_lay (c_X5_lay l (r := k) (c := 2) ((mo (cleanM f q) k 2) - (mo f k 2)) rfl rfl (by omega) (by omega)) rfl rfl rfl rfl ⟨Nat.le_of_ble_eq_true rfl, Nat.le_of_ble_eq_true rfl⟩ rfl (Nat.le_of_ble_eq_true rfl) (by decide +kernel) (fun o σ5 hP => ?_)
            obtain ⟨rfl, rfl⟩ := hP
            refine g_blk (pc' := 98) (loc' := [some (vR (8, 0, 0)), some (vI (nI k)), some (vI (nI q)), some (vI (mo f k 2))]) (st' := [vI (1 : Int32), vI (nI k), vR (8, 0, 0), vI (1 : Int32), vI (nI k), vR (8, 0, 0)]) (σ' := sa τ (so (cleanM f q) k 2 ((mo (cleanM f q) k 2) - (mo f k 2)))) fl5_ok [(92, .aload_n 0), (93, .iload_n 1), (94, .iconst 1), (95, .aload_n 0), (96, .iload_n 1), (97, .iconst 1)] (by decide +kernel) rfl rfl ?_
            refine g_callVp (8, 0, 0) [vI (nI k), vI (1 : Int32)] [vI (1 : Int32), vI (nI k), vR (8, 0, 0)] vl_RX5_44 mi_X5_of (c_X5_of l (r := k) (c := 1) rfl rfl (by omega) (by omega)) rfl rfl rfl rfl ⟨Nat.le_of_ble_eq_true rfl, Nat.le_of_ble_eq_true rfl⟩ rfl (Nat.le_of_ble_eq_true rfl) (by decide +kernel) ?_
            refine g_blk (pc' := 103) (loc' := [some (vR (8, 0, 0)), some (vI (nI k)), some (vI (nI q)), some (vI (mo f k 2))]) (st' := [vI ((mo (so (cleanM f q) k 2 ((mo (cleanM f q) k 2) - (mo f k 2))) k 1) + (mo f k 2)), vI (1 : Int32), vI (nI k), vR (8, 0, 0)]) (σ' := sa τ (so (cleanM f q) k 2 ((mo (cleanM f q) k 2) - (mo f k 2)))) fl5_ok [(101, .iload_n 3), (102, .iadd)] (by decide +kernel) rfl rfl ?_
            refine g_callV (8, 0, 0) [vI (nI k), vI (1 : Int32), vI ((mo (so (cleanM f q) k 2 ((mo (cleanM f q) k 2) - (mo f k 2))) k 1) + (mo f k 2))] [] vl_RX5_36 mi_X5_lay (c_X5_lay l (r := k) (c := 1) ((mo (so (cleanM f q) k 2 ((mo (cleanM f q) k 2) - (mo f k 2))) k 1) + (mo f k 2)) rfl rfl (by omega) (by omega)) rfl rfl rfl rfl ⟨Nat.le_of_ble_eq_true rfl, Nat.le_of_ble_eq_true rfl⟩ rfl (Nat.le_of_ble_eq_true rfl) (by decide +kernel) (fun o σ6 hP => ?_)
            obtain ⟨rfl, rfl⟩ := hP
            refine g_blk (pc' := 109) (loc' := [some (vR (8, 0, 0)), some (vI (nI k)), some (vI (nI q)), some (vI (mo f k 2))]) (st' := [vI (2 : Int32), vI (nI k), vR (8, 0, 0)]) (σ' := sa τ (so (so (cleanM f q) k 2 ((mo (cleanM f q) k 2) - (mo f k 2))) k 1 ((mo (so (cleanM f q) k 2 ((mo (cleanM f q) k 2) - (mo f k 2))) k 1) + (mo f k 2)))) fl5_ok [(106, .aload_n 0), (107, .iload_n 1), (108, .iconst 2)] (by decide +kernel) rfl rfl ?_
            refine g_callVp (8, 0, 0) [vI (nI k), vI (2 : Int32)] [] vl_RX5_44 mi_X5_of (c_X5_of l (r := k) (c := 2) rfl rfl (by omega) (by omega)) rfl rfl rfl rfl ⟨Nat.le_of_ble_eq_true rfl, Nat.le_of_ble_eq_true rfl⟩ rfl (Nat.le_of_ble_eq_true rfl) (by decide +kernel) ?_
            have hx : xextra S Hs P (nI k) (nI q) = (cl (payS S (nI k) (nI q)) 0 (nI k) 4, kp S Hs P (payS S (nI k) (nI q))) := by rw [xextra, if_neg zc5, if_pos zc13, if_neg zc24, if_pos zc32]
            have hrow : so (so (cleanM f q) k 2 ((mo (cleanM f q) k 2) - (mo f k 2))) k 1 ((mo (so (cleanM f q) k 2 ((mo (cleanM f q) k 2) - (mo f k 2))) k 1) + (mo f k 2)) = ext f k q := by unfold ext; simp only; rw [if_neg zc54]
            have E1 := e_pay hE hk hq
            have V1 := v_pay hV (by omega) hk hq
            rw [hx, hrow, cl4 (by omega)]
            exact g_iret (by decide +kernel) ⟨congrArg (fun z => some (vI z)) (E1.2.2.2.2.1 k (by rw [sz_pay hE.1 hk hq]; exact hk)).2.2.1, τ, _, rfl, hK.2 _ _ _ (by omega) E1 (V1.le (by omega)), hK.1⟩
        · rw [away_eq hE hV hk] at zc32
          refine g_blk (pc' := 37) (loc' := [some (vR (8, 0, 0)), some (vI (nI k)), some (vI (nI q)), none]) (st' := [vI (-5 : Int32)]) (σ' := sa σ f) fl5_ok [(35, .bipush (-5))] (by decide +kernel) rfl rfl ?_
          have hx : xextra S Hs P (nI k) (nI q) = ((-5 : Int32), (S, (Hs, P))) := by rw [xextra, if_neg zc5, if_pos zc13, if_neg zc24, if_neg zc32]
          rw [hx]
          exact g_iret (by decide +kernel) ⟨rfl, σ, f, rfl, h.le (by omega), FrM.rf⟩
    · refine g_blk (pc' := 17) (loc' := [some (vR (8, 0, 0)), some (vI (nI k)), some (vI a), none]) (st' := [vI (-1 : Int32)]) (σ' := sa σ f) fl5_ok [(16, .iconst (-1))] (by decide +kernel) rfl rfl ?_
      have hx : xextra S Hs P (nI k) a = ((-1 : Int32), (S, (Hs, P))) := by rw [xextra, if_neg zc5, if_neg (not_not_intro zc13)]
      rw [hx]
      exact g_iret (by decide +kernel) ⟨rfl, σ, f, rfl, h.le (by omega), FrM.rf⟩
theorem who_ok {S : HA} {n : Nat} (hV : V S n) : ∃ who : Nat → Nat, ∀ t, t < sz S 2 → ce S 2 t 1 = nI (who t) ∧ who t < sz S 0 := by
  have h8 := hV.1.2.1.1
  refine ⟨fun t => (ce S 2 t 1).toNatClampNeg, fun t ht => ?_⟩
  obtain ⟨-, ⟨r, hr, e⟩, -⟩ := hV.2.2.2.1 t ht
  show ce S 2 t 1 = nI (ce S 2 t 1).toNatClampNeg ∧ (ce S 2 t 1).toNatClampNeg < sz S 0
  rw [e, nI_clamp (by omega)]
  exact ⟨rfl, hr⟩
set_option maxHeartbeats 2000000 in
theorem m_end (l : Launch) {σ : Sg} {f : Nat → Int32} {S : HA} {Hs : List HA} {P : PV} {n : Nat} (h : Mq_ S Hs P n f σ) (hn : n ≤ 1000000)  : Con l 2 yX5_end cX5_end 1 (some .int) [vR (8, 0, 0)] (sa σ f) (Mp_ (xend S Hs P) n σ) := by
  obtain ⟨hE, hV, ⟨h3, h6⟩, hA, h5, hP⟩ := id h
  obtain ⟨hb0, hb1, hb2, hb3⟩ := hE.1
  have hnr := hE.2.2.1.1
  have hna := hE.2.2.1.2.1
  have hnt := hE.2.2.1.2.2.1
  have hns := hE.2.2.1.2.2.2
  refine con_of pn_X5_end (Nat.le_of_ble_eq_true rfl) (fun hPK hok => ?_)
  show G l (Rm 2) RX5 cX5_end 1 (some .int) _ 0 [some (vR (8, 0, 0))] [] (sa σ f)
  refine g_blk (pc' := 6) (loc' := [some (vR (8, 0, 0))]) (st' := [vI (f 4)]) (σ' := sa σ f) fl5_ok [(0, .aload_n 0), (1, .getfield 7), (4, .iconst 4), (5, .iaload)] (by decide +kernel) rfl rfl ?_
  refine g_if_eq (off := 15) (tgt := 21) (by decide +kernel) (by decide) (fun zc6 => ?_) (fun zc6 => ?_)
  · have h4 : f 4 = S.2 6 := hE.2.1.2.1
    rw [h4] at zc6
    refine g_blk (pc' := 23) (loc' := [some (vR (8, 0, 0))]) (st' := [vI (-5 : Int32)]) (σ' := sa σ f) fl5_ok [(21, .bipush (-5))] (by decide +kernel) rfl rfl ?_
    have hx : xend S Hs P = ((-5 : Int32), (S, (Hs, P))) := by rw [xend, if_pos zc6]
    rw [hx]
    exact g_iret (by decide +kernel) ⟨rfl, σ, f, rfl, h.le (by omega), FrM.rf⟩
  · have h4 : f 4 = S.2 6 := hE.2.1.2.1
    rw [h4] at zc6
    refine g_blk (pc' := 18) (loc' := [some (vR (8, 0, 0))]) (st' := [vI (999 : Int32), vI (f 0)]) (σ' := sa σ f) fl5_ok [(9, .aload_n 0), (10, .getfield 7), (13, .iconst 0), (14, .iaload), (15, .sipush 999)] (by decide +kernel) rfl rfl ?_
    refine g_icmp_ne (off := 6) (tgt := 24) (by decide +kernel) (by decide) (fun zc18 => ?_) (fun zc18 => ?_)
    · obtain ⟨wk, hw9, hwk⟩ := hV.1.2.2.2
      have h0 : f 0 = S.2 5 := hE.2.1.1
      have hlt : wk < 999 := by
        rcases Nat.lt_or_ge wk 999 with q | q
        · exact q
        · exact absurd (by rw [h0, hwk, show wk = 999 by omega]; rfl) zc18
      have zw : S.2 5 < 999 := by rw [hwk]; exact (nI_ltI (b := 999) (by omega) (by decide)).mpr hlt
      refine g_blk (pc' := 25) (loc' := [some (vR (8, 0, 0))]) (st' := [vR (8, 0, 0)]) (σ' := sa σ f) fl5_ok [(24, .aload_n 0)] (by decide +kernel) rfl rfl ?_
      refine g_callV (8, 0, 0) [] [] vl_RX5_33 mi_X5_keep (con_keep l h) rfl rfl rfl rfl ⟨Nat.le_of_ble_eq_true rfl, Nat.le_of_ble_eq_true rfl⟩ rfl (Nat.le_of_ble_eq_true rfl) (by decide +kernel) (fun o τ0 hP0 => ?_)
      obtain ⟨rfl, τ, rfl, hK⟩ := hP0
      refine g_blk (pc' := 29) (loc' := [some (vR (8, 0, 0))]) (st' := [vR (8, 0, 0)]) (σ' := sa τ f) fl5_ok [(28, .aload_n 0)] (by decide +kernel) rfl rfl ?_
      obtain ⟨who, hwho⟩ := who_ok hV
      refine g_callV (8, 0, 0) [] [] vl_RX5_121 mi_X5_makeEnd (c_X5_makeEnd l (who := who) hnr hb0 hna hb1 hnt hb2 (fun j hj _ => ⟨(hE.2.2.2.2.2.2.1 j 1 hj (by decide)).trans (hwho j hj).1, by have := (hwho j hj).2; omega⟩)) rfl rfl rfl rfl ⟨Nat.le_of_ble_eq_true rfl, Nat.le_of_ble_eq_true rfl⟩ rfl (Nat.le_of_ble_eq_true rfl) (by decide +kernel) (fun o σ1 hP => ?_)
      obtain ⟨rfl, rfl⟩ := hP
      obtain ⟨eE, eV, ec, -⟩ := end_ok hE hV hwk hlt hwho
      have hx : xend S Hs P = (cntL S (sz S 2), kp S Hs P (endS S)) := by rw [xend, if_neg zc6, if_pos zw]
      rw [hx]
      exact g_iret (by decide +kernel) ⟨congrArg (fun z => some (vI z)) ec, τ, _, rfl, hK.2 _ _ _ (by omega) eE eV, hK.1⟩
    · obtain ⟨wk, hw9, hwk⟩ := hV.1.2.2.2
      have h0 : f 0 = S.2 5 := hE.2.1.1
      have zw : ¬ S.2 5 < 999 := by rw [← h0, zc18]; decide
      refine g_blk (pc' := 23) (loc' := [some (vR (8, 0, 0))]) (st' := [vI (-5 : Int32)]) (σ' := sa σ f) fl5_ok [(21, .bipush (-5))] (by decide +kernel) rfl rfl ?_
      have hx : xend S Hs P = ((-5 : Int32), (S, (Hs, P))) := by rw [xend, if_neg zc6, if_neg zw]
      rw [hx]
      exact g_iret (by decide +kernel) ⟨rfl, σ, f, rfl, h.le (by omega), FrM.rf⟩
theorem ixw0 (r : Nat) : (150 : Int32) + (2 : Int32) * nI r = nI (150 + 2 * r) := by rw [show (150 : Int32) = nI 150 from rfl, show (2 : Int32) = nI 2 from rfl, pk_mul, nI_add]
theorem ixw1 (r : Nat) : (150 : Int32) + (2 : Int32) * nI r + 1 = nI (150 + 2 * r + 1) := by rw [ixw0, nI_1]
theorem sz_addW {S : HA} {a b : Int32} (h : sz S 3 < 6) : sz (addSwS S a b) 3 = sz S 3 + 1 := by rw [addW_eq h, addWN, sz_W, sz_W, sz_app, if_pos rfl]
theorem can_eq {S : HA} {a b : Nat} (hb : sz S 2 ≤ 12) (ha : a < sz S 2) (hbb : b < sz S 2) : canS S (nI a) (nI b) = if ¬ ce S 2 a 3 = 0 then 0 else if ¬ ce S 2 b 3 = 0 then 0 else if ce S 2 a 1 = ce S 2 b 1 then 0 else 1 := by
  rw [canS, open_n (by omega) ha, open_n (by omega) hbb, cl1 (by omega), cl1 (by omega)]
  by_cases q1 : ce S 2 a 3 = 0
  · rw [if_pos q1, if_neg (show ¬ (1 : Int32) = 0 by decide), if_neg (not_not_intro q1)]
    by_cases q2 : ce S 2 b 3 = 0
    · rw [if_pos q2, if_neg (show ¬ (1 : Int32) = 0 by decide), if_neg (not_not_intro q2)]
    · rw [if_neg q2, if_pos rfl, if_pos q2]
  · rw [if_neg q1, if_pos rfl, if_pos q1]
set_option maxHeartbeats 2000000 in
theorem m_propose (l : Launch) {σ : Sg} {f : Nat → Int32} {S : HA} {Hs : List HA} {P : PV} {n : Nat} (h : Mq_ S Hs P n f σ) (hn : n ≤ 1000000) (a b : Int32) : Con l 2 yX5_propose cX5_propose 4 (some .int) [vR (8, 0, 0), vI a, vI b] (sa σ f) (Mp_ (xpropose S Hs P a b) n σ) := by
  obtain ⟨hE, hV, ⟨h3, h6⟩, hA, h5, hP⟩ := id h
  obtain ⟨hb0, hb1, hb2, hb3⟩ := hE.1
  have hnr := hE.2.2.1.1
  have hna := hE.2.2.1.2.1
  have hnt := hE.2.2.1.2.2.1
  have hns := hE.2.2.1.2.2.2
  refine con_of pn_X5_propose (Nat.le_of_ble_eq_true rfl) (fun hPK hok => ?_)
  show G l (Rm 2) RX5 cX5_propose 4 (some .int) _ 0 [some (vR (8, 0, 0)), some (vI a), some (vI b), none] [] (sa σ f)
  refine g_blk (pc' := 2) (loc' := [some (vR (8, 0, 0)), some (vI a), some (vI b), none]) (st' := [vI a, vR (8, 0, 0)]) (σ' := sa σ f) fl5_ok [(0, .aload_n 0), (1, .iload_n 1)] (by decide +kernel) rfl rfl ?_
  refine g_callVp (8, 0, 0) [vI a] [] vl_RX5_112 mi_X5_isTask (c_X5_isTask l (n := (sz S 2)) a hnt (by omega)) rfl rfl rfl rfl ⟨Nat.le_of_ble_eq_true rfl, Nat.le_of_ble_eq_true rfl⟩ rfl (Nat.le_of_ble_eq_true rfl) (by decide +kernel) ?_
  refine g_if_eq (off := 11) (tgt := 16) (by decide +kernel) (by decide) (fun zc5 => ?_) (fun zc5 => ?_)
  · refine g_blk (pc' := 17) (loc' := [some (vR (8, 0, 0)), some (vI a), some (vI b), none]) (st' := [vI (-1 : Int32)]) (σ' := sa σ f) fl5_ok [(16, .iconst (-1))] (by decide +kernel) rfl rfl ?_
    have hx : xpropose S Hs P a b = ((-1 : Int32), (S, (Hs, P))) := by rw [xpropose, if_pos zc5]
    rw [hx]
    exact g_iret (by decide +kernel) ⟨rfl, σ, f, rfl, h.le (by omega), FrM.rf⟩
  · obtain ⟨k, hk, rfl⟩ := has_ex (by omega) zc5
    refine g_blk (pc' := 10) (loc' := [some (vR (8, 0, 0)), some (vI (nI k)), some (vI b), none]) (st' := [vI b, vR (8, 0, 0)]) (σ' := sa σ f) fl5_ok [(8, .aload_n 0), (9, .iload_n 2)] (by decide +kernel) rfl rfl ?_
    refine g_callVp (8, 0, 0) [vI b] [] vl_RX5_112 mi_X5_isTask (c_X5_isTask l (n := (sz S 2)) b hnt (by omega)) rfl rfl rfl rfl ⟨Nat.le_of_ble_eq_true rfl, Nat.le_of_ble_eq_true rfl⟩ rfl (Nat.le_of_ble_eq_true rfl) (by decide +kernel) ?_
    refine g_if_ne (off := 5) (tgt := 18) (by decide +kernel) (by decide) (fun zc13 => ?_) (fun zc13 => ?_)
    · obtain ⟨q, hq, rfl⟩ := has_ex (by omega) zc13
      refine g_blk (pc' := 21) (loc' := [some (vR (8, 0, 0)), some (vI (nI k)), some (vI (nI q)), none]) (st' := [vI (3 : Int32), vI (nI k), vR (8, 0, 0)]) (σ' := sa σ f) fl5_ok [(18, .aload_n 0), (19, .iload_n 1), (20, .iconst 3)] (by decide +kernel) rfl rfl ?_
      refine g_callVp (8, 0, 0) [vI (nI k), vI (3 : Int32)] [] vl_RX5_65 mi_X5_ofTask (c_X5_ofTask l (r := k) (c := 3) rfl rfl (by omega) (by omega)) rfl rfl rfl rfl ⟨Nat.le_of_ble_eq_true rfl, Nat.le_of_ble_eq_true rfl⟩ rfl (Nat.le_of_ble_eq_true rfl) (by decide +kernel) ?_
      refine g_if_ne (off := 16) (tgt := 40) (by decide +kernel) (by decide) (fun zc24 => ?_) (fun zc24 => ?_)
      · have hK3 := hE.2.2.2.2.2.2.1
        rw [hK3 k 3 hk (by decide)] at zc24
        refine g_blk (pc' := 43) (loc' := [some (vR (8, 0, 0)), some (vI (nI k)), some (vI (nI q)), some (vI (0 : Int32))]) (st' := [vI (0 : Int32)]) (σ' := sa σ f) fl5_ok [(40, .iconst 0), (41, .istore_n 3), (42, .iload_n 3)] (by decide +kernel) rfl rfl ?_
        refine g_if_eq (off := 27) (tgt := 70) (by decide +kernel) (by decide) (fun zc43 => ?_) (fun zc43 => ?_)
        · refine g_blk (pc' := 72) (loc' := [some (vR (8, 0, 0)), some (vI (nI k)), some (vI (nI q)), some (vI (0 : Int32))]) (st' := [vI (-5 : Int32)]) (σ' := sa σ f) fl5_ok [(70, .bipush (-5))] (by decide +kernel) rfl rfl ?_
          have zcan : canS S (nI k) (nI q) = 0 := by rw [can_eq hb2 hk hq, if_pos zc24]
          have hx : xpropose S Hs P (nI k) (nI q) = ((-5 : Int32), (S, (Hs, P))) := by rw [xpropose, if_neg zc5, if_pos zc13, if_pos zcan]
          rw [hx]
          exact g_iret (by decide +kernel) ⟨rfl, σ, f, rfl, h.le (by omega), FrM.rf⟩
        · exact absurd zc43 (by decide)
      · have hK3 := hE.2.2.2.2.2.2.1
        rw [hK3 k 3 hk (by decide)] at zc24
        refine g_blk (pc' := 30) (loc' := [some (vR (8, 0, 0)), some (vI (nI k)), some (vI (nI q)), none]) (st' := [vI (3 : Int32), vI (nI q), vR (8, 0, 0)]) (σ' := sa σ f) fl5_ok [(27, .aload_n 0), (28, .iload_n 2), (29, .iconst 3)] (by decide +kernel) rfl rfl ?_
        refine g_callVp (8, 0, 0) [vI (nI q), vI (3 : Int32)] [] vl_RX5_65 mi_X5_ofTask (c_X5_ofTask l (r := q) (c := 3) rfl rfl (by omega) (by omega)) rfl rfl rfl rfl ⟨Nat.le_of_ble_eq_true rfl, Nat.le_of_ble_eq_true rfl⟩ rfl (Nat.le_of_ble_eq_true rfl) (by decide +kernel) ?_
        refine g_if_ne (off := 7) (tgt := 40) (by decide +kernel) (by decide) (fun zc33 => ?_) (fun zc33 => ?_)
        · rw [hK3 q 3 hq (by decide)] at zc33
          refine g_blk (pc' := 43) (loc' := [some (vR (8, 0, 0)), some (vI (nI k)), some (vI (nI q)), some (vI (0 : Int32))]) (st' := [vI (0 : Int32)]) (σ' := sa σ f) fl5_ok [(40, .iconst 0), (41, .istore_n 3), (42, .iload_n 3)] (by decide +kernel) rfl rfl ?_
          refine g_if_eq (off := 27) (tgt := 70) (by decide +kernel) (by decide) (fun zc43 => ?_) (fun zc43 => ?_)
          · refine g_blk (pc' := 72) (loc' := [some (vR (8, 0, 0)), some (vI (nI k)), some (vI (nI q)), some (vI (0 : Int32))]) (st' := [vI (-5 : Int32)]) (σ' := sa σ f) fl5_ok [(70, .bipush (-5))] (by decide +kernel) rfl rfl ?_
            have zcan : canS S (nI k) (nI q) = 0 := by rw [can_eq hb2 hk hq, if_neg (not_not_intro zc24), if_pos zc33]
            have hx : xpropose S Hs P (nI k) (nI q) = ((-5 : Int32), (S, (Hs, P))) := by rw [xpropose, if_neg zc5, if_pos zc13, if_pos zcan]
            rw [hx]
            exact g_iret (by decide +kernel) ⟨rfl, σ, f, rfl, h.le (by omega), FrM.rf⟩
          · exact absurd zc43 (by decide)
        · rw [hK3 q 3 hq (by decide)] at zc33
          refine g_blk (pc' := 43) (loc' := [some (vR (8, 0, 0)), some (vI (nI k)), some (vI (nI q)), some (vI (1 : Int32))]) (st' := [vI (1 : Int32)]) (σ' := sa σ f) fl5_ok [(36, .iconst 1), (37, .goto 4), (41, .istore_n 3), (42, .iload_n 3)] (by decide +kernel) rfl rfl ?_
          refine g_if_eq (off := 27) (tgt := 70) (by decide +kernel) (by decide) (fun zc43 => ?_) (fun zc43 => ?_)
          · exact absurd zc43 (by decide)
          · refine g_blk (pc' := 49) (loc' := [some (vR (8, 0, 0)), some (vI (nI k)), some (vI (nI q)), some (vI (1 : Int32))]) (st' := [vI (1 : Int32), vI (nI k), vR (8, 0, 0)]) (σ' := sa σ f) fl5_ok [(46, .aload_n 0), (47, .iload_n 1), (48, .iconst 1)] (by decide +kernel) rfl rfl ?_
            refine g_callVp (8, 0, 0) [vI (nI k), vI (1 : Int32)] [] vl_RX5_65 mi_X5_ofTask (c_X5_ofTask l (r := k) (c := 1) rfl rfl (by omega) (by omega)) rfl rfl rfl rfl ⟨Nat.le_of_ble_eq_true rfl, Nat.le_of_ble_eq_true rfl⟩ rfl (Nat.le_of_ble_eq_true rfl) (by decide +kernel) ?_
            refine g_blk (pc' := 55) (loc' := [some (vR (8, 0, 0)), some (vI (nI k)), some (vI (nI q)), some (vI (1 : Int32))]) (st' := [vI (1 : Int32), vI (nI q), vR (8, 0, 0), vI (mk f k 1)]) (σ' := sa σ f) fl5_ok [(52, .aload_n 0), (53, .iload_n 2), (54, .iconst 1)] (by decide +kernel) rfl rfl ?_
            refine g_callVp (8, 0, 0) [vI (nI q), vI (1 : Int32)] [vI (mk f k 1)] vl_RX5_65 mi_X5_ofTask (c_X5_ofTask l (r := q) (c := 1) rfl rfl (by omega) (by omega)) rfl rfl rfl rfl ⟨Nat.le_of_ble_eq_true rfl, Nat.le_of_ble_eq_true rfl⟩ rfl (Nat.le_of_ble_eq_true rfl) (by decide +kernel) ?_
            refine g_icmp_eq (off := 12) (tgt := 70) (by decide +kernel) (by decide) (fun zc58 => ?_) (fun zc58 => ?_)
            · rw [hK3 k 1 hk (by decide), hK3 q 1 hq (by decide)] at zc58
              refine g_blk (pc' := 72) (loc' := [some (vR (8, 0, 0)), some (vI (nI k)), some (vI (nI q)), some (vI (1 : Int32))]) (st' := [vI (-5 : Int32)]) (σ' := sa σ f) fl5_ok [(70, .bipush (-5))] (by decide +kernel) rfl rfl ?_
              have zcan : canS S (nI k) (nI q) = 0 := by rw [can_eq hb2 hk hq, if_neg (not_not_intro zc24), if_neg (not_not_intro zc33), if_pos zc58]
              have hx : xpropose S Hs P (nI k) (nI q) = ((-5 : Int32), (S, (Hs, P))) := by rw [xpropose, if_neg zc5, if_pos zc13, if_pos zcan]
              rw [hx]
              exact g_iret (by decide +kernel) ⟨rfl, σ, f, rfl, h.le (by omega), FrM.rf⟩
            · rw [hK3 k 1 hk (by decide), hK3 q 1 hq (by decide)] at zc58
              refine g_blk (pc' := 64) (loc' := [some (vR (8, 0, 0)), some (vI (nI k)), some (vI (nI q)), some (vI (1 : Int32))]) (st' := [vI (nI q), vI (nI k), vR (8, 0, 0)]) (σ' := sa σ f) fl5_ok [(61, .aload_n 0), (62, .iload_n 1), (63, .iload_n 2)] (by decide +kernel) rfl rfl ?_
              refine g_callVp (8, 0, 0) [vI (nI k), vI (nI q)] [] vl_RX5_124 mi_X5_isProposed (c_X5_isProposed l (ns := (sz S 3)) (nI k) (nI q) hns (by omega)) rfl rfl rfl rfl ⟨Nat.le_of_ble_eq_true rfl, Nat.le_of_ble_eq_true rfl⟩ rfl (Nat.le_of_ble_eq_true rfl) (by decide +kernel) ?_
              refine g_if_eq (off := 6) (tgt := 73) (by decide +kernel) (by decide) (fun zc67 => ?_) (fun zc67 => ?_)
              · rw [prop_eq hE] at zc67
                refine g_blk (pc' := 82) (loc' := [some (vR (8, 0, 0)), some (vI (nI k)), some (vI (nI q)), some (vI (1 : Int32))]) (st' := [vI (6 : Int32), vI (f 7)]) (σ' := sa σ f) fl5_ok [(73, .aload_n 0), (74, .getfield 7), (77, .bipush 7), (79, .iaload), (80, .bipush 6)] (by decide +kernel) rfl rfl ?_
                refine g_icmp_ne (off := 6) (tgt := 88) (by decide +kernel) (by decide) (fun zc82 => ?_) (fun zc82 => ?_)
                · have hlt : sz S 3 < 6 := by
                    rcases Nat.lt_or_ge (sz S 3) 6 with q | q
                    · exact q
                    · exact absurd (by rw [hns, show sz S 3 = 6 by omega]; rfl) zc82
                  have zf : fullS S 3 = 0 := if_neg (show ¬ 6 ≤ sz S 3 by omega)
                  refine g_blk (pc' := 89) (loc' := [some (vR (8, 0, 0)), some (vI (nI k)), some (vI (nI q)), some (vI (1 : Int32))]) (st' := [vR (8, 0, 0)]) (σ' := sa σ f) fl5_ok [(88, .aload_n 0)] (by decide +kernel) rfl rfl ?_
                  refine g_callV (8, 0, 0) [] [] vl_RX5_33 mi_X5_keep (con_keep l h) rfl rfl rfl rfl ⟨Nat.le_of_ble_eq_true rfl, Nat.le_of_ble_eq_true rfl⟩ rfl (Nat.le_of_ble_eq_true rfl) (by decide +kernel) (fun o τ0 hP0 => ?_)
                  obtain ⟨rfl, τ, rfl, hK⟩ := hP0
                  refine g_blk (pc' := 110) (loc' := [some (vR (8, 0, 0)), some (vI (nI k)), some (vI (nI q)), some (vI (1 : Int32))]) (st' := [vI (nI k), vI ((150 : Int32) + ((2 : Int32) * (f 7))), vR (9, 0, 0)]) (σ' := sa τ f) fl5_ok [(92, .aload_n 0), (93, .getfield 7), (96, .sipush 150), (99, .iconst 2), (100, .aload_n 0), (101, .getfield 7), (104, .bipush 7), (106, .iaload), (107, .imul), (108, .iadd), (109, .iload_n 1)] (by decide +kernel) rfl rfl ?_
                  refine g_sst (k := (150 + 2 * sz S 3)) (by rw [hns]; exact ixw0 _) (by omega) (by decide +kernel) ?_
                  refine g_blk (pc' := 131) (loc' := [some (vR (8, 0, 0)), some (vI (nI k)), some (vI (nI q)), some (vI (1 : Int32))]) (st' := [vI (nI q), vI (((150 : Int32) + ((2 : Int32) * ((upd f (150 + 2 * sz S 3) (nI k)) 7))) + (1 : Int32)), vR (9, 0, 0)]) (σ' := sa τ (upd f (150 + 2 * sz S 3) (nI k))) fl5_ok [(111, .aload_n 0), (112, .getfield 7), (115, .sipush 150), (118, .iconst 2), (119, .aload_n 0), (120, .getfield 7), (123, .bipush 7), (125, .iaload), (126, .imul), (127, .iadd), (128, .iconst 1), (129, .iadd), (130, .iload_n 2)] (by decide +kernel) rfl rfl ?_
                  refine g_sst (k := (150 + 2 * sz S 3 + 1)) (by rw [up_ne (by omega), hns]; exact ixw1 _) (by omega) (by decide +kernel) ?_
                  refine g_blk (pc' := 142) (loc' := [some (vR (8, 0, 0)), some (vI (nI k)), some (vI (nI q)), some (vI (1 : Int32))]) (st' := [vI (((upd (upd f (150 + 2 * sz S 3) (nI k)) (150 + 2 * sz S 3 + 1) (nI q)) 7) + (1 : Int32)), vI (7 : Int32), vR (9, 0, 0)]) (σ' := sa τ (upd (upd f (150 + 2 * sz S 3) (nI k)) (150 + 2 * sz S 3 + 1) (nI q))) fl5_ok [(132, .aload_n 0), (133, .getfield 7), (136, .bipush 7), (138, .dup2), (139, .iaload), (140, .iconst 1), (141, .iadd)] (by decide +kernel) rfl rfl ?_
                  refine g_sst (k := 7) rfl (by omega) (by decide +kernel) ?_
                  refine g_blk (pc' := 150) (loc' := [some (vR (8, 0, 0)), some (vI (nI k)), some (vI (nI q)), some (vI (1 : Int32))]) (st' := [vI ((upd (upd (upd f (150 + 2 * sz S 3) (nI k)) (150 + 2 * sz S 3 + 1) (nI q)) 7 (((upd (upd f (150 + 2 * sz S 3) (nI k)) (150 + 2 * sz S 3 + 1) (nI q)) 7) + (1 : Int32))) 7)]) (σ' := sa τ (upd (upd (upd f (150 + 2 * sz S 3) (nI k)) (150 + 2 * sz S 3 + 1) (nI q)) 7 (((upd (upd f (150 + 2 * sz S 3) (nI k)) (150 + 2 * sz S 3 + 1) (nI q)) 7) + (1 : Int32)))) fl5_ok [(143, .aload_n 0), (144, .getfield 7), (147, .bipush 7), (149, .iaload)] (by decide +kernel) rfl rfl ?_
                  have zcan : canS S (nI k) (nI q) = 1 := by rw [can_eq hb2 hk hq, if_neg (not_not_intro zc24), if_neg (not_not_intro zc33), if_neg zc58]
                  have hx : xpropose S Hs P (nI k) (nI q) = (nI (sz (addSwS S (nI k) (nI q)) 3), kp S Hs P (addSwS S (nI k) (nI q))) := by rw [xpropose, if_neg zc5, if_pos zc13, if_neg (by rw [zcan]; decide), if_pos zc67, if_pos zf]
                  have hrow : upd (upd (upd f (150 + 2 * sz S 3) (nI k)) (150 + 2 * sz S 3 + 1) (nI q)) 7 (((upd (upd f (150 + 2 * sz S 3) (nI k)) (150 + 2 * sz S 3 + 1) (nI q)) 7) + (1 : Int32)) = rowW f (sz S 3) (nI k) (nI q) := by rw [rowW, up_ne (by omega), up_ne (by omega), hns, nI_1]
                  rw [hx, hrow, sz_addW hlt]
                  exact g_iret (by decide +kernel) ⟨congrArg (fun z => some (vI z)) up_at, τ, _, rfl, hK.2 _ _ _ (by omega) (e_addW hE hlt (nI k) (nI q)) ((v_addW hV hlt hk zc24 hq zc33).le (by omega)), hK.1⟩
                · have hge : 6 ≤ sz S 3 := by
                    rw [hns] at zc82
                    have := (nI_eq (b := 6) (by omega) (by decide)).mp zc82
                    omega
                  have zf : ¬ fullS S 3 = 0 := by rw [fullS, if_pos (show mst 3 ≤ sz S 3 from hge)]; decide
                  refine g_blk (pc' := 87) (loc' := [some (vR (8, 0, 0)), some (vI (nI k)), some (vI (nI q)), some (vI (1 : Int32))]) (st' := [vI (-4 : Int32)]) (σ' := sa σ f) fl5_ok [(85, .bipush (-4))] (by decide +kernel) rfl rfl ?_
                  have zcan : canS S (nI k) (nI q) = 1 := by rw [can_eq hb2 hk hq, if_neg (not_not_intro zc24), if_neg (not_not_intro zc33), if_neg zc58]
                  have hx : xpropose S Hs P (nI k) (nI q) = ((-4 : Int32), (S, (Hs, P))) := by rw [xpropose, if_neg zc5, if_pos zc13, if_neg (by rw [zcan]; decide), if_pos zc67, if_neg zf]
                  rw [hx]
                  exact g_iret (by decide +kernel) ⟨rfl, σ, f, rfl, h.le (by omega), FrM.rf⟩
              · rw [prop_eq hE] at zc67
                refine g_blk (pc' := 72) (loc' := [some (vR (8, 0, 0)), some (vI (nI k)), some (vI (nI q)), some (vI (1 : Int32))]) (st' := [vI (-5 : Int32)]) (σ' := sa σ f) fl5_ok [(70, .bipush (-5))] (by decide +kernel) rfl rfl ?_
                have zcan : canS S (nI k) (nI q) = 1 := by rw [can_eq hb2 hk hq, if_neg (not_not_intro zc24), if_neg (not_not_intro zc33), if_neg zc58]
                have hx : xpropose S Hs P (nI k) (nI q) = ((-5 : Int32), (S, (Hs, P))) := by rw [xpropose, if_neg zc5, if_pos zc13, if_neg (by rw [zcan]; decide), if_neg zc67]
                rw [hx]
                exact g_iret (by decide +kernel) ⟨rfl, σ, f, rfl, h.le (by omega), FrM.rf⟩
    · refine g_blk (pc' := 17) (loc' := [some (vR (8, 0, 0)), some (vI (nI k)), some (vI b), none]) (st' := [vI (-1 : Int32)]) (σ' := sa σ f) fl5_ok [(16, .iconst (-1))] (by decide +kernel) rfl rfl ?_
      have hx : xpropose S Hs P (nI k) b = ((-1 : Int32), (S, (Hs, P))) := by rw [xpropose, if_neg zc5, if_neg (not_not_intro zc13)]
      rw [hx]
      exact g_iret (by decide +kernel) ⟨rfl, σ, f, rfl, h.le (by omega), FrM.rf⟩
theorem drM_le {t : Int32} : ∀ (k : Nat) (f : Nat → Int32) (ns : Nat), (drM t k f ns).2 ≤ ns
  | 0, _, _ => Nat.le_refl _
  | k + 1, f, ns => by
    have h1 := drM_le (t := t) k (rmM f ns k) (ns - 1)
    have h2 := drM_le (t := t) k f ns
    rw [drM]
    split
    · omega
    · split
      · exact h2
      · omega
set_option maxHeartbeats 2000000 in
theorem m_answer (l : Launch) {σ : Sg} {f : Nat → Int32} {S : HA} {Hs : List HA} {P : PV} {n : Nat} (h : Mq_ S Hs P n f σ) (hn : n ≤ 1000000) (s y : Int32) : Con l 2 yX5_answer cX5_answer 5 (some .int) [vR (8, 0, 0), vI s, vI y] (sa σ f) (Mp_ (xanswer S Hs P s y) n σ) := by
  obtain ⟨hE, hV, ⟨h3, h6⟩, hA, h5, hP⟩ := id h
  obtain ⟨hb0, hb1, hb2, hb3⟩ := hE.1
  have hnr := hE.2.2.1.1
  have hna := hE.2.2.1.2.1
  have hnt := hE.2.2.1.2.2.1
  have hns := hE.2.2.1.2.2.2
  refine con_of pn_X5_answer (Nat.le_of_ble_eq_true rfl) (fun hPK hok => ?_)
  show G l (Rm 2) RX5 cX5_answer 5 (some .int) _ 0 [some (vR (8, 0, 0)), some (vI s), some (vI y), none, none] [] (sa σ f)
  refine g_blk (pc' := 1) (loc' := [some (vR (8, 0, 0)), some (vI s), some (vI y), none, none]) (st' := [vI s]) (σ' := sa σ f) fl5_ok [(0, .iload_n 1)] (by decide +kernel) rfl rfl ?_
  refine g_if_lt (off := 14) (tgt := 15) (by decide +kernel) (by decide) (fun zc1 => ?_) (fun zc1 => ?_)
  · have zh : hasT s (sz S 3) = 0 := hasT_out (out_lo zc1)
    refine g_blk (pc' := 16) (loc' := [some (vR (8, 0, 0)), some (vI s), some (vI y), none, none]) (st' := [vI (-1 : Int32)]) (σ' := sa σ f) fl5_ok [(15, .iconst (-1))] (by decide +kernel) rfl rfl ?_
    have hx : xanswer S Hs P s y = ((-1 : Int32), (S, (Hs, P))) := by rw [xanswer, if_neg (not_not_intro zh)]
    rw [hx]
    exact g_iret (by decide +kernel) ⟨rfl, σ, f, rfl, h.le (by omega), FrM.rf⟩
  · refine g_blk (pc' := 12) (loc' := [some (vR (8, 0, 0)), some (vI s), some (vI y), none, none]) (st' := [vI (f 7), vI s]) (σ' := sa σ f) fl5_ok [(4, .iload_n 1), (5, .aload_n 0), (6, .getfield 7), (9, .bipush 7), (11, .iaload)] (by decide +kernel) rfl rfl ?_
    refine g_icmp_lt (off := 5) (tgt := 17) (by decide +kernel) (by decide) (fun zc12 => ?_) (fun zc12 => ?_)
    · rw [hns] at zc12
      obtain ⟨k, hk, rfl⟩ := in_of (n := sz S 3) (by omega) zc1 (Int32.not_le.mpr zc12)
      have zh : ¬ hasT (nI k) (sz S 3) = 0 := by rw [hasT_in (vp_in_nI hk (by omega))]; decide
      refine g_blk (pc' := 20) (loc' := [some (vR (8, 0, 0)), some (vI (nI k)), some (vI y), none, none]) (st' := [vI (1 : Int32), vI (0 : Int32), vI y]) (σ' := sa σ f) fl5_ok [(17, .iload_n 2), (18, .iconst 0), (19, .iconst 1)] (by decide +kernel) rfl rfl ?_
      refine g_callSp [vI y, vI (0 : Int32), vI (1 : Int32)] [] sl_RX5_29 mi_X5_in (c_X5_in l y (0 : Int32) (1 : Int32)) rfl ⟨Nat.le_of_ble_eq_true rfl, Nat.le_of_ble_eq_true rfl⟩ rfl (Nat.le_of_ble_eq_true rfl) (by decide +kernel) ?_
      refine g_if_ne (off := 6) (tgt := 29) (by decide +kernel) (by decide) (fun zc23 => ?_) (fun zc23 => ?_)
      · refine g_blk (pc' := 30) (loc' := [some (vR (8, 0, 0)), some (vI (nI k)), some (vI y), none, none]) (st' := [vR (8, 0, 0)]) (σ' := sa σ f) fl5_ok [(29, .aload_n 0)] (by decide +kernel) rfl rfl ?_
        refine g_callV (8, 0, 0) [] [] vl_RX5_33 mi_X5_keep (con_keep l h) rfl rfl rfl rfl ⟨Nat.le_of_ble_eq_true rfl, Nat.le_of_ble_eq_true rfl⟩ rfl (Nat.le_of_ble_eq_true rfl) (by decide +kernel) (fun o τ0 hP0 => ?_)
        obtain ⟨rfl, τ, rfl, hK⟩ := hP0
        refine g_blk (pc' := 36) (loc' := [some (vR (8, 0, 0)), some (vI (nI k)), some (vI y), none, none]) (st' := [vI (0 : Int32), vI (nI k), vR (8, 0, 0)]) (σ' := sa τ f) fl5_ok [(33, .aload_n 0), (34, .iload_n 1), (35, .iconst 0)] (by decide +kernel) rfl rfl ?_
        refine g_callVp (8, 0, 0) [vI (nI k), vI (0 : Int32)] [] vl_RX5_96 mi_X5_ofSwap (c_X5_ofSwap l (r := k) (c := 0) rfl rfl (by omega) (by omega)) rfl rfl rfl rfl ⟨Nat.le_of_ble_eq_true rfl, Nat.le_of_ble_eq_true rfl⟩ rfl (Nat.le_of_ble_eq_true rfl) (by decide +kernel) ?_
        refine g_blk (pc' := 43) (loc' := [some (vR (8, 0, 0)), some (vI (nI k)), some (vI y), some (vI (mw f k 0)), none]) (st' := [vI (1 : Int32), vI (nI k), vR (8, 0, 0)]) (σ' := sa τ f) fl5_ok [(39, .istore_n 3), (40, .aload_n 0), (41, .iload_n 1), (42, .iconst 1)] (by decide +kernel) rfl rfl ?_
        refine g_callVp (8, 0, 0) [vI (nI k), vI (1 : Int32)] [] vl_RX5_96 mi_X5_ofSwap (c_X5_ofSwap l (r := k) (c := 1) rfl rfl (by omega) (by omega)) rfl rfl rfl rfl ⟨Nat.le_of_ble_eq_true rfl, Nat.le_of_ble_eq_true rfl⟩ rfl (Nat.le_of_ble_eq_true rfl) (by decide +kernel) ?_
        refine g_blk (pc' := 48) (loc' := [some (vR (8, 0, 0)), some (vI (nI k)), some (vI y), some (vI (mw f k 0)), some (vI (mw f k 1))]) (st' := []) (σ' := sa τ f) fl5_ok [(46, .istore 4)] (by decide +kernel) rfl rfl ?_
        obtain ⟨ta, ha, hca, hao⟩ := hV.w k 0 hk (by decide)
        obtain ⟨tb, hb, hcb, hbo⟩ := hV.w k 1 hk (by decide)
        have hma : mw f k 0 = nI ta := (hE.2.2.2.2.2.2.2 k 0 hk (by decide)).trans hca
        have hmb : mw f k 1 = nI tb := (hE.2.2.2.2.2.2.2 k 1 hk (by decide)).trans hcb
        obtain ⟨-, ⟨r1, hr1, hw1⟩, -⟩ := hV.2.2.2.1 ta ha
        obtain ⟨-, ⟨r2, hr2, hw2⟩, -⟩ := hV.2.2.2.1 tb hb
        rw [hma, hmb]
        refine g_blk (pc' := 50) (loc' := [some (vR (8, 0, 0)), some (vI (nI k)), some (vI y), some (vI (nI ta)), some (vI (nI tb))]) (st' := [vI (1 : Int32), vI y]) (σ' := sa τ f) fl5_ok [(48, .iload_n 2), (49, .iconst 1)] (by decide +kernel) rfl rfl ?_
        refine g_icmp_ne (off := 24) (tgt := 74) (by decide +kernel) (by decide) (fun zc50 => ?_) (fun zc50 => ?_)
        · refine g_blk (pc' := 76) (loc' := [some (vR (8, 0, 0)), some (vI (nI k)), some (vI y), some (vI (nI ta)), some (vI (nI tb))]) (st' := [vI (nI k), vR (8, 0, 0)]) (σ' := sa τ f) fl5_ok [(74, .aload_n 0), (75, .iload_n 1)] (by decide +kernel) rfl rfl ?_
          refine g_callV (8, 0, 0) [vI (nI k)] [] vl_RX5_99 mi_X5_removeSwap (c_X5_removeSwap l (s := k) (ns := (sz S 3)) rfl hns (by omega) (by omega)) rfl rfl rfl rfl ⟨Nat.le_of_ble_eq_true rfl, Nat.le_of_ble_eq_true rfl⟩ rfl (Nat.le_of_ble_eq_true rfl) (by decide +kernel) (fun o σ1 hP => ?_)
          obtain ⟨rfl, rfl⟩ := hP
          refine g_blk (pc' := 86) (loc' := [some (vR (8, 0, 0)), some (vI (nI k)), some (vI y), some (vI (nI ta)), some (vI (nI tb))]) (st' := [vI ((rmM f (sz S 3) k) 7)]) (σ' := sa τ (rmM f (sz S 3) k)) fl5_ok [(79, .aload_n 0), (80, .getfield 7), (83, .bipush 7), (85, .iaload)] (by decide +kernel) rfl rfl ?_
          have hx : xanswer S Hs P (nI k) y = (nI (sz S 3 - 1), kp S Hs P (setT S 3 (trem (S.1 3) k))) := by rw [xanswer, if_pos zh, if_pos zc23, if_pos zc50, nI_clamp (by omega)]
          rw [hx]
          exact g_iret (by decide +kernel) ⟨congrArg (fun z => some (vI z)) rmM_7, τ, _, rfl, hK.2 _ _ _ (by omega) (e_rm0 hE hk) ((v_rm hV hk).le (by omega)), hK.1⟩
        · refine g_blk (pc' := 57) (loc' := [some (vR (8, 0, 0)), some (vI (nI k)), some (vI y), some (vI (nI ta)), some (vI (nI tb))]) (st' := [vI (nI tb), vI (nI ta), vR (8, 0, 0)]) (σ' := sa τ f) fl5_ok [(53, .aload_n 0), (54, .iload_n 3), (55, .iload 4)] (by decide +kernel) rfl rfl ?_
          refine g_callV (8, 0, 0) [vI (nI ta), vI (nI tb)] [] vl_RX5_127 mi_X5_exchange (c_X5_exchange l (a := ta) (b := tb) rfl rfl (by omega) (by omega)) rfl rfl rfl rfl ⟨Nat.le_of_ble_eq_true rfl, Nat.le_of_ble_eq_true rfl⟩ rfl (Nat.le_of_ble_eq_true rfl) (by decide +kernel) (fun o σ2 hP => ?_)
          obtain ⟨rfl, rfl⟩ := hP
          refine g_blk (pc' := 62) (loc' := [some (vR (8, 0, 0)), some (vI (nI k)), some (vI y), some (vI (nI ta)), some (vI (nI tb))]) (st' := [vI (nI ta), vR (8, 0, 0)]) (σ' := sa τ (exM f ta tb)) fl5_ok [(60, .aload_n 0), (61, .iload_n 3)] (by decide +kernel) rfl rfl ?_
          refine g_callV (8, 0, 0) [vI (nI ta)] [] vl_RX5_109 mi_X5_dropSwaps (c_X5_dropSwaps l (ns := (sz S 3)) (nI ta) (by rw [exM, sk_lo (by decide), sk_lo (by decide)]; exact hns) (by omega)) rfl rfl rfl rfl ⟨Nat.le_of_ble_eq_true rfl, Nat.le_of_ble_eq_true rfl⟩ rfl (Nat.le_of_ble_eq_true rfl) (by decide +kernel) (fun o σ3 hP => ?_)
          obtain ⟨rfl, rfl⟩ := hP
          refine g_blk (pc' := 68) (loc' := [some (vR (8, 0, 0)), some (vI (nI k)), some (vI y), some (vI (nI ta)), some (vI (nI tb))]) (st' := [vI (nI tb), vR (8, 0, 0)]) (σ' := sa τ ((drM (nI ta) (sz S 3) (exM f ta tb) (sz S 3)).1)) fl5_ok [(65, .aload_n 0), (66, .iload 4)] (by decide +kernel) rfl rfl ?_
          have hle := drM_le (t := nI ta) (sz S 3) (exM f ta tb) (sz S 3)
          refine g_callV (8, 0, 0) [vI (nI tb)] [] vl_RX5_109 mi_X5_dropSwaps (c_X5_dropSwaps l (ns := (drM (nI ta) (sz S 3) (exM f ta tb) (sz S 3)).2) (nI tb) (drM_7 _ _ _ (by rw [exM, sk_lo (by decide), sk_lo (by decide)]; exact hns)) (by omega)) rfl rfl rfl rfl ⟨Nat.le_of_ble_eq_true rfl, Nat.le_of_ble_eq_true rfl⟩ rfl (Nat.le_of_ble_eq_true rfl) (by decide +kernel) (fun o σ4 hP => ?_)
          obtain ⟨rfl, rfl⟩ := hP
          refine g_blk (pc' := 86) (loc' := [some (vR (8, 0, 0)), some (vI (nI k)), some (vI y), some (vI (nI ta)), some (vI (nI tb))]) (st' := [vI (((drM (nI tb) (drM (nI ta) (sz S 3) (exM f ta tb) (sz S 3)).2 ((drM (nI ta) (sz S 3) (exM f ta tb) (sz S 3)).1) (drM (nI ta) (sz S 3) (exM f ta tb) (sz S 3)).2).1) 7)]) (σ' := sa τ ((drM (nI tb) (drM (nI ta) (sz S 3) (exM f ta tb) (sz S 3)).2 ((drM (nI ta) (sz S 3) (exM f ta tb) (sz S 3)).1) (drM (nI ta) (sz S 3) (exM f ta tb) (sz S 3)).2).1)) fl5_ok [(71, .goto 8), (79, .aload_n 0), (80, .getfield 7), (83, .bipush 7), (85, .iaload)] (by decide +kernel) rfl rfl ?_
          have hx : xanswer S Hs P (nI k) y = (nI (sz (accS S (nI k)) 3), kp S Hs P (accS S (nI k))) := by rw [xanswer, if_pos zh, if_pos zc23, if_neg (not_not_intro zc50)]
          have ea := acc_eq hE.1 hk hca hcb ha hb hr1 hr2 hw1 hw2
          have E1 := e_acc hE (ce S 2 tb 2 - ce S 2 ta 2) ha hb hw1 hw2
          have V1 := v_drop (t := tb) (v_drop (t := ta) (v_accN hV ha hb hao hbo hr1 hr2 hw1 hw2))
          rw [hx, ea]
          exact g_iret (by decide +kernel) ⟨congrArg (fun z => some (vI z)) E1.2.2.1.2.2.2, τ, _, rfl, hK.2 _ _ _ (by omega) E1 (V1.le (by omega)), hK.1⟩
      · refine g_blk (pc' := 28) (loc' := [some (vR (8, 0, 0)), some (vI (nI k)), some (vI y), none, none]) (st' := [vI (-2 : Int32)]) (σ' := sa σ f) fl5_ok [(26, .bipush (-2))] (by decide +kernel) rfl rfl ?_
        have hx : xanswer S Hs P (nI k) y = ((-2 : Int32), (S, (Hs, P))) := by rw [xanswer, if_pos zh, if_neg (not_not_intro zc23)]
        rw [hx]
        exact g_iret (by decide +kernel) ⟨rfl, σ, f, rfl, h.le (by omega), FrM.rf⟩
    · rw [hns] at zc12
      have zh : hasT s (sz S 3) = 0 := hasT_out (out_hi (by omega) (Int32.not_lt.mp zc12))
      refine g_blk (pc' := 16) (loc' := [some (vR (8, 0, 0)), some (vI s), some (vI y), none, none]) (st' := [vI (-1 : Int32)]) (σ' := sa σ f) fl5_ok [(15, .iconst (-1))] (by decide +kernel) rfl rfl ?_
      have hx : xanswer S Hs P s y = ((-1 : Int32), (S, (Hs, P))) := by rw [xanswer, if_neg (not_not_intro zh)]
      rw [hx]
      exact g_iret (by decide +kernel) ⟨rfl, σ, f, rfl, h.le (by omega), FrM.rf⟩
