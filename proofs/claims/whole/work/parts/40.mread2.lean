/-! THE MODEL: its public readers (laid by wip/whole/mk40.py) -/
theorem rate_w {S : HA} {n r : Nat} (hV : V S n) (hr : r < sz S 0) (x : Int32) : rateS S (nI r) x = 1000 * x / ce S 0 r 0 := by
  obtain ⟨⟨w, w1, w2, w3⟩, -⟩ := hV.2.1 r hr
  have h8 := hV.1.2.1.1
  rw [rateS, cl0 (by omega), w3, if_neg (show ¬ nI w ≤ 0 from nI_ge (a := 0) (by omega) (by omega))]
set_option maxHeartbeats 2000000 in
theorem m_about (l : Launch) {σ : Sg} {f : Nat → Int32} {S : HA} {Hs : List HA} {P : PV} {n : Nat} (h : Mq_ S Hs P n f σ) (hn : n ≤ 1000000) (r w : Int32) : Con l 2 yX5_about cX5_about 3 (some .int) [vR (8, 0, 0), vI r, vI w] (sa σ f) (Mp_ (xabout S r w, ((S, (Hs, P)) : XS)) n σ) := by
  obtain ⟨hE, hV, ⟨h3, h6⟩, hA, h5, hP⟩ := id h
  obtain ⟨hb0, hb1, hb2, hb3⟩ := hE.1
  have hnr := hE.2.2.1.1
  have hna := hE.2.2.1.2.1
  have hnt := hE.2.2.1.2.2.1
  have hns := hE.2.2.1.2.2.2
  refine con_of pn_X5_about (Nat.le_of_ble_eq_true rfl) (fun hPK hok => ?_)
  show G l (Rm 2) RX5 cX5_about 3 (some .int) _ 0 [some (vR (8, 0, 0)), some (vI r), some (vI w)] [] (sa σ f)
  refine g_blk (pc' := 2) (loc' := [some (vR (8, 0, 0)), some (vI r), some (vI w)]) (st' := [vI r, vR (8, 0, 0)]) (σ' := sa σ f) fl5_ok [(0, .aload_n 0), (1, .iload_n 1)] (by decide +kernel) rfl rfl ?_
  refine g_callVp (8, 0, 0) [vI r] [] vl_RX5_40 mi_X5_isResident (c_X5_isResident l (n := (sz S 0)) r hnr (by omega)) rfl rfl rfl rfl ⟨Nat.le_of_ble_eq_true rfl, Nat.le_of_ble_eq_true rfl⟩ rfl (Nat.le_of_ble_eq_true rfl) (by decide +kernel) ?_
  refine g_if_ne (off := 5) (tgt := 10) (by decide +kernel) (by decide) (fun zc5 => ?_) (fun zc5 => ?_)
  · obtain ⟨k, hk, rfl⟩ := has_ex (by omega) zc5
    refine g_blk (pc' := 11) (loc' := [some (vR (8, 0, 0)), some (vI (nI k)), some (vI w)]) (st' := [vI w]) (σ' := sa σ f) fl5_ok [(10, .iload_n 2)] (by decide +kernel) rfl rfl ?_
    rcases pk_ix w (n := 9) (by decide) with zq | zq | ⟨j, hj, rfl⟩
    · refine g_tabO (dflt := 108) (lo := 0) (hi := 8) (offs := #[49, 49, 49, 49, 56, 62, 80, 87, 94]) (len := 49) (tgt := 119) (by decide +kernel) (Or.inl (tab_lo zq)) (by decide) ?_
      refine g_blk (pc' := 121) (loc' := [some (vR (8, 0, 0)), some (vI (nI k)), some (vI w)]) (st' := [vI (-2 : Int32)]) (σ' := sa σ f) fl5_ok [(119, .bipush (-2))] (by decide +kernel) rfl rfl ?_
      have hx : xabout S (nI k) w = -2 := by unfold xabout; rw [if_pos zc5]; exact sw_lo zq
      rw [hx]
      exact g_iret (by decide +kernel) ⟨rfl, σ, f, rfl, h.le (by omega), FrM.rf⟩
    · refine g_tabO (dflt := 108) (lo := 0) (hi := 8) (offs := #[49, 49, 49, 49, 56, 62, 80, 87, 94]) (len := 49) (tgt := 119) (by decide +kernel) (Or.inr (tab_hi 8 (by decide) zq)) (by decide) ?_
      refine g_blk (pc' := 121) (loc' := [some (vR (8, 0, 0)), some (vI (nI k)), some (vI w)]) (st' := [vI (-2 : Int32)]) (σ' := sa σ f) fl5_ok [(119, .bipush (-2))] (by decide +kernel) rfl rfl ?_
      have hx : xabout S (nI k) w = -2 := by unfold xabout; rw [if_pos zc5]; exact sw_hi zq
      rw [hx]
      exact g_iret (by decide +kernel) ⟨rfl, σ, f, rfl, h.le (by omega), FrM.rf⟩
    · match j, hj with
      | 0, hj =>
        refine g_tabI (dflt := 108) (lo := 0) (hi := 8) (offs := #[49, 49, 49, 49, 56, 62, 80, 87, 94]) (len := 49) (off := 49) (tgt := 60) (by decide +kernel) (by decide) (by decide) rfl (by decide) ?_
        refine g_blk (pc' := 63) (loc' := [some (vR (8, 0, 0)), some (vI (nI k)), some (vI (nI 0))]) (st' := [vI (nI 0), vI (nI k), vR (8, 0, 0)]) (σ' := sa σ f) fl5_ok [(60, .aload_n 0), (61, .iload_n 1), (62, .iload_n 2)] (by decide +kernel) rfl rfl ?_
        refine g_callVp (8, 0, 0) [vI (nI k), vI (nI 0)] [] vl_RX5_44 mi_X5_of (c_X5_of l (r := k) (c := 0) rfl rfl (by omega) (by omega)) rfl rfl rfl rfl ⟨Nat.le_of_ble_eq_true rfl, Nat.le_of_ble_eq_true rfl⟩ rfl (Nat.le_of_ble_eq_true rfl) (by decide +kernel) ?_
        have hO := hE.2.2.2.2.1 k hk
        have hx : xabout S (nI k) (nI 0) = cl S 0 (nI k) 0 := by unfold xabout; rw [if_pos zc5]; exact sw_in (n := 9) (j := 0) (by decide) (by decide)
        rw [hx]
        exact g_iret (by decide +kernel) ⟨congrArg (fun z => some (vI z)) (hO.1.trans (cl0 (by omega)).symm), σ, f, rfl, h.le (by omega), FrM.rf⟩
      | 1, hj =>
        refine g_tabI (dflt := 108) (lo := 0) (hi := 8) (offs := #[49, 49, 49, 49, 56, 62, 80, 87, 94]) (len := 49) (off := 49) (tgt := 60) (by decide +kernel) (by decide) (by decide) rfl (by decide) ?_
        refine g_blk (pc' := 63) (loc' := [some (vR (8, 0, 0)), some (vI (nI k)), some (vI (nI 1))]) (st' := [vI (nI 1), vI (nI k), vR (8, 0, 0)]) (σ' := sa σ f) fl5_ok [(60, .aload_n 0), (61, .iload_n 1), (62, .iload_n 2)] (by decide +kernel) rfl rfl ?_
        refine g_callVp (8, 0, 0) [vI (nI k), vI (nI 1)] [] vl_RX5_44 mi_X5_of (c_X5_of l (r := k) (c := 1) rfl rfl (by omega) (by omega)) rfl rfl rfl rfl ⟨Nat.le_of_ble_eq_true rfl, Nat.le_of_ble_eq_true rfl⟩ rfl (Nat.le_of_ble_eq_true rfl) (by decide +kernel) ?_
        have hO := hE.2.2.2.2.1 k hk
        have hx : xabout S (nI k) (nI 1) = cl S 0 (nI k) 3 := by unfold xabout; rw [if_pos zc5]; exact sw_in (n := 9) (j := 1) (by decide) (by decide)
        rw [hx]
        exact g_iret (by decide +kernel) ⟨congrArg (fun z => some (vI z)) (hO.2.1.trans (cl3 (by omega)).symm), σ, f, rfl, h.le (by omega), FrM.rf⟩
      | 2, hj =>
        refine g_tabI (dflt := 108) (lo := 0) (hi := 8) (offs := #[49, 49, 49, 49, 56, 62, 80, 87, 94]) (len := 49) (off := 49) (tgt := 60) (by decide +kernel) (by decide) (by decide) rfl (by decide) ?_
        refine g_blk (pc' := 63) (loc' := [some (vR (8, 0, 0)), some (vI (nI k)), some (vI (nI 2))]) (st' := [vI (nI 2), vI (nI k), vR (8, 0, 0)]) (σ' := sa σ f) fl5_ok [(60, .aload_n 0), (61, .iload_n 1), (62, .iload_n 2)] (by decide +kernel) rfl rfl ?_
        refine g_callVp (8, 0, 0) [vI (nI k), vI (nI 2)] [] vl_RX5_44 mi_X5_of (c_X5_of l (r := k) (c := 2) rfl rfl (by omega) (by omega)) rfl rfl rfl rfl ⟨Nat.le_of_ble_eq_true rfl, Nat.le_of_ble_eq_true rfl⟩ rfl (Nat.le_of_ble_eq_true rfl) (by decide +kernel) ?_
        have hO := hE.2.2.2.2.1 k hk
        have hx : xabout S (nI k) (nI 2) = cl S 0 (nI k) 4 := by unfold xabout; rw [if_pos zc5]; exact sw_in (n := 9) (j := 2) (by decide) (by decide)
        rw [hx]
        exact g_iret (by decide +kernel) ⟨congrArg (fun z => some (vI z)) (hO.2.2.1.trans (cl4 (by omega)).symm), σ, f, rfl, h.le (by omega), FrM.rf⟩
      | 3, hj =>
        refine g_tabI (dflt := 108) (lo := 0) (hi := 8) (offs := #[49, 49, 49, 49, 56, 62, 80, 87, 94]) (len := 49) (off := 49) (tgt := 60) (by decide +kernel) (by decide) (by decide) rfl (by decide) ?_
        refine g_blk (pc' := 63) (loc' := [some (vR (8, 0, 0)), some (vI (nI k)), some (vI (nI 3))]) (st' := [vI (nI 3), vI (nI k), vR (8, 0, 0)]) (σ' := sa σ f) fl5_ok [(60, .aload_n 0), (61, .iload_n 1), (62, .iload_n 2)] (by decide +kernel) rfl rfl ?_
        refine g_callVp (8, 0, 0) [vI (nI k), vI (nI 3)] [] vl_RX5_44 mi_X5_of (c_X5_of l (r := k) (c := 3) rfl rfl (by omega) (by omega)) rfl rfl rfl rfl ⟨Nat.le_of_ble_eq_true rfl, Nat.le_of_ble_eq_true rfl⟩ rfl (Nat.le_of_ble_eq_true rfl) (by decide +kernel) ?_
        have hO := hE.2.2.2.2.1 k hk
        have hx : xabout S (nI k) (nI 3) = cl S 0 (nI k) 5 := by unfold xabout; rw [if_pos zc5]; exact sw_in (n := 9) (j := 3) (by decide) (by decide)
        rw [hx]
        exact g_iret (by decide +kernel) ⟨congrArg (fun z => some (vI z)) (hO.2.2.2.1.trans (cl5 (by omega)).symm), σ, f, rfl, h.le (by omega), FrM.rf⟩
      | 4, hj =>
        refine g_tabI (dflt := 108) (lo := 0) (hi := 8) (offs := #[49, 49, 49, 49, 56, 62, 80, 87, 94]) (len := 49) (off := 56) (tgt := 67) (by decide +kernel) (by decide) (by decide) rfl (by decide) ?_
        refine g_blk (pc' := 69) (loc' := [some (vR (8, 0, 0)), some (vI (nI k)), some (vI (nI 4))]) (st' := [vI (nI k), vR (8, 0, 0)]) (σ' := sa σ f) fl5_ok [(67, .aload_n 0), (68, .iload_n 1)] (by decide +kernel) rfl rfl ?_
        refine g_callVp (8, 0, 0) [vI (nI k)] [] vl_RX5_71 mi_X5_loadOf (c_X5_loadOf l (r := k) (nt := (sz S 2)) rfl (by omega) hnt (by omega)) rfl rfl rfl rfl ⟨Nat.le_of_ble_eq_true rfl, Nat.le_of_ble_eq_true rfl⟩ rfl (Nat.le_of_ble_eq_true rfl) (by decide +kernel) ?_
        have hO := hE.2.2.2.2.1 k hk
        have hx : xabout S (nI k) (nI 4) = loadS S (nI k) := by unfold xabout; rw [if_pos zc5]; exact sw_in (n := 9) (j := 4) (by decide) (by decide)
        rw [hx]
        exact g_iret (by decide +kernel) ⟨congrArg (fun z => some (vI z)) (load_eq hE hV hk), σ, f, rfl, h.le (by omega), FrM.rf⟩
      | 5, hj =>
        refine g_tabI (dflt := 108) (lo := 0) (hi := 8) (offs := #[49, 49, 49, 49, 56, 62, 80, 87, 94]) (len := 49) (off := 62) (tgt := 73) (by decide +kernel) (by decide) (by decide) rfl (by decide) ?_
        refine g_blk (pc' := 79) (loc' := [some (vR (8, 0, 0)), some (vI (nI k)), some (vI (nI 5))]) (st' := [vI (1 : Int32), vI (nI k), vR (8, 0, 0), vI (1000 : Int32)]) (σ' := sa σ f) fl5_ok [(73, .sipush 1000), (76, .aload_n 0), (77, .iload_n 1), (78, .iconst 1)] (by decide +kernel) rfl rfl ?_
        refine g_callVp (8, 0, 0) [vI (nI k), vI (1 : Int32)] [vI (1000 : Int32)] vl_RX5_44 mi_X5_of (c_X5_of l (r := k) (c := 1) rfl rfl (by omega) (by omega)) rfl rfl rfl rfl ⟨Nat.le_of_ble_eq_true rfl, Nat.le_of_ble_eq_true rfl⟩ rfl (Nat.le_of_ble_eq_true rfl) (by decide +kernel) ?_
        refine g_blk (pc' := 86) (loc' := [some (vR (8, 0, 0)), some (vI (nI k)), some (vI (nI 5))]) (st' := [vI (0 : Int32), vI (nI k), vR (8, 0, 0), vI ((1000 : Int32) * (mo f k 1))]) (σ' := sa σ f) fl5_ok [(82, .imul), (83, .aload_n 0), (84, .iload_n 1), (85, .iconst 0)] (by decide +kernel) rfl rfl ?_
        refine g_callVp (8, 0, 0) [vI (nI k), vI (0 : Int32)] [vI ((1000 : Int32) * (mo f k 1))] vl_RX5_44 mi_X5_of (c_X5_of l (r := k) (c := 0) rfl rfl (by omega) (by omega)) rfl rfl rfl rfl ⟨Nat.le_of_ble_eq_true rfl, Nat.le_of_ble_eq_true rfl⟩ rfl (Nat.le_of_ble_eq_true rfl) (by decide +kernel) ?_
        refine g_idiv (hy := (wt_ne hE hV k hk)) (hd := by decide +kernel) (k := ?_)
        have hO := hE.2.2.2.2.1 k hk
        have hx : xabout S (nI k) (nI 5) = rateS S (nI k) (cl S 0 (nI k) 3) := by unfold xabout; rw [if_pos zc5]; exact sw_in (n := 9) (j := 5) (by decide) (by decide)
        rw [hx]
        exact g_iret (by decide +kernel) ⟨congrArg (fun z => some (vI z)) (by rw [rate_w hV hk, cl3 (by omega), hO.1, hO.2.1]), σ, f, rfl, h.le (by omega), FrM.rf⟩
      | 6, hj =>
        refine g_tabI (dflt := 108) (lo := 0) (hi := 8) (offs := #[49, 49, 49, 49, 56, 62, 80, 87, 94]) (len := 49) (off := 80) (tgt := 91) (by decide +kernel) (by decide) (by decide) rfl (by decide) ?_
        refine g_blk (pc' := 94) (loc' := [some (vR (8, 0, 0)), some (vI (nI k)), some (vI (nI 6))]) (st' := [vI (0 : Int32), vI (nI k), vR (8, 0, 0)]) (σ' := sa σ f) fl5_ok [(91, .aload_n 0), (92, .iload_n 1), (93, .iconst 0)] (by decide +kernel) rfl rfl ?_
        refine g_callVp (8, 0, 0) [vI (nI k), vI (0 : Int32)] [] vl_RX5_131 mi_X5_openOf (c_X5_openOf0 l (r := k) (nt := (sz S 2)) rfl (by omega) hnt (by omega)) rfl rfl rfl rfl ⟨Nat.le_of_ble_eq_true rfl, Nat.le_of_ble_eq_true rfl⟩ rfl (Nat.le_of_ble_eq_true rfl) (by decide +kernel) ?_
        have hO := hE.2.2.2.2.1 k hk
        have hx : xabout S (nI k) (nI 6) = cntOL S (nI k) (sz S 2) := by unfold xabout; rw [if_pos zc5]; exact sw_in (n := 9) (j := 6) (by decide) (by decide)
        rw [hx]
        exact g_iret (by decide +kernel) ⟨congrArg (fun z => some (vI z)) (openof_eq hE _ (Nat.le_refl _)), σ, f, rfl, h.le (by omega), FrM.rf⟩
      | 7, hj =>
        refine g_tabI (dflt := 108) (lo := 0) (hi := 8) (offs := #[49, 49, 49, 49, 56, 62, 80, 87, 94]) (len := 49) (off := 87) (tgt := 98) (by decide +kernel) (by decide) (by decide) rfl (by decide) ?_
        refine g_blk (pc' := 101) (loc' := [some (vR (8, 0, 0)), some (vI (nI k)), some (vI (nI 7))]) (st' := [vI (1 : Int32), vI (nI k), vR (8, 0, 0)]) (σ' := sa σ f) fl5_ok [(98, .aload_n 0), (99, .iload_n 1), (100, .iconst 1)] (by decide +kernel) rfl rfl ?_
        refine g_callVp (8, 0, 0) [vI (nI k), vI (1 : Int32)] [] vl_RX5_131 mi_X5_openOf (c_X5_openOf1 l (r := k) (nt := (sz S 2)) rfl (by omega) hnt (by omega)) rfl rfl rfl rfl ⟨Nat.le_of_ble_eq_true rfl, Nat.le_of_ble_eq_true rfl⟩ rfl (Nat.le_of_ble_eq_true rfl) (by decide +kernel) ?_
        have hO := hE.2.2.2.2.1 k hk
        have hx : xabout S (nI k) (nI 7) = firstF S (nI k) (sz S 2) 0 := by unfold xabout; rw [if_pos zc5]; exact sw_in (n := 9) (j := 7) (by decide) (by decide)
        rw [hx]
        exact g_iret (by decide +kernel) ⟨congrArg (fun z => some (vI z)) (first_eq hE _ _ (by omega)), σ, f, rfl, h.le (by omega), FrM.rf⟩
      | 8, hj =>
        refine g_tabI (dflt := 108) (lo := 0) (hi := 8) (offs := #[49, 49, 49, 49, 56, 62, 80, 87, 94]) (len := 49) (off := 94) (tgt := 105) (by decide +kernel) (by decide) (by decide) rfl (by decide) ?_
        refine g_blk (pc' := 107) (loc' := [some (vR (8, 0, 0)), some (vI (nI k)), some (vI (nI 8))]) (st' := [vI (nI k), vR (8, 0, 0)]) (σ' := sa σ f) fl5_ok [(105, .aload_n 0), (106, .iload_n 1)] (by decide +kernel) rfl rfl ?_
        refine g_callVp (8, 0, 0) [vI (nI k)] [] vl_RX5_48 mi_X5_isAway (c_X5_isAway l (r := k) rfl (by omega)) rfl rfl rfl rfl ⟨Nat.le_of_ble_eq_true rfl, Nat.le_of_ble_eq_true rfl⟩ rfl (Nat.le_of_ble_eq_true rfl) (by decide +kernel) ?_
        refine g_if_eq (off := 7) (tgt := 117) (by decide +kernel) (by decide) (fun zc110 => ?_) (fun zc110 => ?_)
        · refine g_blk (pc' := 118) (loc' := [some (vR (8, 0, 0)), some (vI (nI k)), some (vI (nI 8))]) (st' := [vI (0 : Int32)]) (σ' := sa σ f) fl5_ok [(117, .iconst 0)] (by decide +kernel) rfl rfl ?_
          have hO := hE.2.2.2.2.1 k hk
          rw [away_eq hE hV hk] at zc110
          have hx : xabout S (nI k) (nI 8) = bitS (awayS S (nI k)) := by unfold xabout; rw [if_pos zc5]; exact sw_in (n := 9) (j := 8) (by decide) (by decide)
          rw [hx]
          exact g_iret (by decide +kernel) ⟨congrArg (fun z => some (vI z)) ((by rw [zc110]; rfl : (0 : Int32) = bitS (awayS S (nI k)))), σ, f, rfl, h.le (by omega), FrM.rf⟩
        · refine g_blk (pc' := 118) (loc' := [some (vR (8, 0, 0)), some (vI (nI k)), some (vI (nI 8))]) (st' := [vI (1 : Int32)]) (σ' := sa σ f) fl5_ok [(113, .iconst 1), (114, .goto 4)] (by decide +kernel) rfl rfl ?_
          have hO := hE.2.2.2.2.1 k hk
          rw [away_eq hE hV hk] at zc110
          have hx : xabout S (nI k) (nI 8) = bitS (awayS S (nI k)) := by unfold xabout; rw [if_pos zc5]; exact sw_in (n := 9) (j := 8) (by decide) (by decide)
          rw [hx]
          exact g_iret (by decide +kernel) ⟨congrArg (fun z => some (vI z)) ((by rw [bitS, if_neg zc110] : (1 : Int32) = bitS (awayS S (nI k)))), σ, f, rfl, h.le (by omega), FrM.rf⟩
      | j + 9, hj => exact absurd hj (by omega)
  · refine g_blk (pc' := 9) (loc' := [some (vR (8, 0, 0)), some (vI r), some (vI w)]) (st' := [vI (-1 : Int32)]) (σ' := sa σ f) fl5_ok [(8, .iconst (-1))] (by decide +kernel) rfl rfl ?_
    have hx : xabout S r w = -1 := by rw [xabout, if_neg (not_not_intro zc5)]
    rw [hx]
    exact g_iret (by decide +kernel) ⟨rfl, σ, f, rfl, h.le (by omega), FrM.rf⟩
set_option maxHeartbeats 2000000 in
theorem m_room (l : Launch) {σ : Sg} {f : Nat → Int32} {S : HA} {Hs : List HA} {P : PV} {n : Nat} (h : Mq_ S Hs P n f σ) (hn : n ≤ 1000000) (a w : Int32) : Con l 2 yX5_room cX5_room 3 (some .int) [vR (8, 0, 0), vI a, vI w] (sa σ f) (Mp_ (xroom S a w, ((S, (Hs, P)) : XS)) n σ) := by
  obtain ⟨hE, hV, ⟨h3, h6⟩, hA, h5, hP⟩ := id h
  obtain ⟨hb0, hb1, hb2, hb3⟩ := hE.1
  have hnr := hE.2.2.1.1
  have hna := hE.2.2.1.2.1
  have hnt := hE.2.2.1.2.2.1
  have hns := hE.2.2.1.2.2.2
  refine con_of pn_X5_room (Nat.le_of_ble_eq_true rfl) (fun hPK hok => ?_)
  show G l (Rm 2) RX5 cX5_room 3 (some .int) _ 0 [some (vR (8, 0, 0)), some (vI a), some (vI w)] [] (sa σ f)
  refine g_blk (pc' := 2) (loc' := [some (vR (8, 0, 0)), some (vI a), some (vI w)]) (st' := [vI a, vR (8, 0, 0)]) (σ' := sa σ f) fl5_ok [(0, .aload_n 0), (1, .iload_n 1)] (by decide +kernel) rfl rfl ?_
  refine g_callVp (8, 0, 0) [vI a] [] vl_RX5_118 mi_X5_isArea (c_X5_isArea l (n := (sz S 1)) a hna (by omega)) rfl rfl rfl rfl ⟨Nat.le_of_ble_eq_true rfl, Nat.le_of_ble_eq_true rfl⟩ rfl (Nat.le_of_ble_eq_true rfl) (by decide +kernel) ?_
  refine g_if_ne (off := 5) (tgt := 10) (by decide +kernel) (by decide) (fun zc5 => ?_) (fun zc5 => ?_)
  · obtain ⟨q, hq, rfl⟩ := has_ex (by omega) zc5
    refine g_blk (pc' := 11) (loc' := [some (vR (8, 0, 0)), some (vI (nI q)), some (vI w)]) (st' := [vI w]) (σ' := sa σ f) fl5_ok [(10, .iload_n 2)] (by decide +kernel) rfl rfl ?_
    rcases pk_ix w (n := 7) (by decide) with zq | zq | ⟨j, hj, rfl⟩
    · refine g_tabO (dflt := 83) (lo := 0) (hi := 6) (offs := #[41, 41, 41, 41, 48, 62, 76]) (len := 41) (tgt := 94) (by decide +kernel) (Or.inl (tab_lo zq)) (by decide) ?_
      refine g_blk (pc' := 96) (loc' := [some (vR (8, 0, 0)), some (vI (nI q)), some (vI w)]) (st' := [vI (-2 : Int32)]) (σ' := sa σ f) fl5_ok [(94, .bipush (-2))] (by decide +kernel) rfl rfl ?_
      have hx : xroom S (nI q) w = -2 := by unfold xroom; rw [if_pos zc5]; exact sw_lo zq
      rw [hx]
      exact g_iret (by decide +kernel) ⟨rfl, σ, f, rfl, h.le (by omega), FrM.rf⟩
    · refine g_tabO (dflt := 83) (lo := 0) (hi := 6) (offs := #[41, 41, 41, 41, 48, 62, 76]) (len := 41) (tgt := 94) (by decide +kernel) (Or.inr (tab_hi 6 (by decide) zq)) (by decide) ?_
      refine g_blk (pc' := 96) (loc' := [some (vR (8, 0, 0)), some (vI (nI q)), some (vI w)]) (st' := [vI (-2 : Int32)]) (σ' := sa σ f) fl5_ok [(94, .bipush (-2))] (by decide +kernel) rfl rfl ?_
      have hx : xroom S (nI q) w = -2 := by unfold xroom; rw [if_pos zc5]; exact sw_hi zq
      rw [hx]
      exact g_iret (by decide +kernel) ⟨rfl, σ, f, rfl, h.le (by omega), FrM.rf⟩
    · match j, hj with
      | 0, hj =>
        refine g_tabI (dflt := 83) (lo := 0) (hi := 6) (offs := #[41, 41, 41, 41, 48, 62, 76]) (len := 41) (off := 41) (tgt := 52) (by decide +kernel) (by decide) (by decide) rfl (by decide) ?_
        refine g_blk (pc' := 55) (loc' := [some (vR (8, 0, 0)), some (vI (nI q)), some (vI (nI 0))]) (st' := [vI (nI 0), vI (nI q), vR (8, 0, 0)]) (σ' := sa σ f) fl5_ok [(52, .aload_n 0), (53, .iload_n 1), (54, .iload_n 2)] (by decide +kernel) rfl rfl ?_
        refine g_callVp (8, 0, 0) [vI (nI q), vI (nI 0)] [] vl_RX5_62 mi_X5_ofArea (c_X5_ofArea l (r := q) (c := 0) rfl rfl (by omega) (by omega)) rfl rfl rfl rfl ⟨Nat.le_of_ble_eq_true rfl, Nat.le_of_ble_eq_true rfl⟩ rfl (Nat.le_of_ble_eq_true rfl) (by decide +kernel) ?_
        have hR := hE.2.2.2.2.2.1 q
        have hx : xroom S (nI q) (nI 0) = cl S 1 (nI q) 0 := by unfold xroom; rw [if_pos zc5]; exact sw_in (n := 7) (j := 0) (by decide) (by decide)
        rw [hx]
        exact g_iret (by decide +kernel) ⟨congrArg (fun z => some (vI z)) ((hR 0 hq (by decide)).trans (cl0 (by omega)).symm), σ, f, rfl, h.le (by omega), FrM.rf⟩
      | 1, hj =>
        refine g_tabI (dflt := 83) (lo := 0) (hi := 6) (offs := #[41, 41, 41, 41, 48, 62, 76]) (len := 41) (off := 41) (tgt := 52) (by decide +kernel) (by decide) (by decide) rfl (by decide) ?_
        refine g_blk (pc' := 55) (loc' := [some (vR (8, 0, 0)), some (vI (nI q)), some (vI (nI 1))]) (st' := [vI (nI 1), vI (nI q), vR (8, 0, 0)]) (σ' := sa σ f) fl5_ok [(52, .aload_n 0), (53, .iload_n 1), (54, .iload_n 2)] (by decide +kernel) rfl rfl ?_
        refine g_callVp (8, 0, 0) [vI (nI q), vI (nI 1)] [] vl_RX5_62 mi_X5_ofArea (c_X5_ofArea l (r := q) (c := 1) rfl rfl (by omega) (by omega)) rfl rfl rfl rfl ⟨Nat.le_of_ble_eq_true rfl, Nat.le_of_ble_eq_true rfl⟩ rfl (Nat.le_of_ble_eq_true rfl) (by decide +kernel) ?_
        have hR := hE.2.2.2.2.2.1 q
        have hx : xroom S (nI q) (nI 1) = cl S 1 (nI q) 1 := by unfold xroom; rw [if_pos zc5]; exact sw_in (n := 7) (j := 1) (by decide) (by decide)
        rw [hx]
        exact g_iret (by decide +kernel) ⟨congrArg (fun z => some (vI z)) ((hR 1 hq (by decide)).trans (cl1 (by omega)).symm), σ, f, rfl, h.le (by omega), FrM.rf⟩
      | 2, hj =>
        refine g_tabI (dflt := 83) (lo := 0) (hi := 6) (offs := #[41, 41, 41, 41, 48, 62, 76]) (len := 41) (off := 41) (tgt := 52) (by decide +kernel) (by decide) (by decide) rfl (by decide) ?_
        refine g_blk (pc' := 55) (loc' := [some (vR (8, 0, 0)), some (vI (nI q)), some (vI (nI 2))]) (st' := [vI (nI 2), vI (nI q), vR (8, 0, 0)]) (σ' := sa σ f) fl5_ok [(52, .aload_n 0), (53, .iload_n 1), (54, .iload_n 2)] (by decide +kernel) rfl rfl ?_
        refine g_callVp (8, 0, 0) [vI (nI q), vI (nI 2)] [] vl_RX5_62 mi_X5_ofArea (c_X5_ofArea l (r := q) (c := 2) rfl rfl (by omega) (by omega)) rfl rfl rfl rfl ⟨Nat.le_of_ble_eq_true rfl, Nat.le_of_ble_eq_true rfl⟩ rfl (Nat.le_of_ble_eq_true rfl) (by decide +kernel) ?_
        have hR := hE.2.2.2.2.2.1 q
        have hx : xroom S (nI q) (nI 2) = cl S 1 (nI q) 2 := by unfold xroom; rw [if_pos zc5]; exact sw_in (n := 7) (j := 2) (by decide) (by decide)
        rw [hx]
        exact g_iret (by decide +kernel) ⟨congrArg (fun z => some (vI z)) ((hR 2 hq (by decide)).trans (cl2 (by omega)).symm), σ, f, rfl, h.le (by omega), FrM.rf⟩
      | 3, hj =>
        refine g_tabI (dflt := 83) (lo := 0) (hi := 6) (offs := #[41, 41, 41, 41, 48, 62, 76]) (len := 41) (off := 41) (tgt := 52) (by decide +kernel) (by decide) (by decide) rfl (by decide) ?_
        refine g_blk (pc' := 55) (loc' := [some (vR (8, 0, 0)), some (vI (nI q)), some (vI (nI 3))]) (st' := [vI (nI 3), vI (nI q), vR (8, 0, 0)]) (σ' := sa σ f) fl5_ok [(52, .aload_n 0), (53, .iload_n 1), (54, .iload_n 2)] (by decide +kernel) rfl rfl ?_
        refine g_callVp (8, 0, 0) [vI (nI q), vI (nI 3)] [] vl_RX5_62 mi_X5_ofArea (c_X5_ofArea l (r := q) (c := 3) rfl rfl (by omega) (by omega)) rfl rfl rfl rfl ⟨Nat.le_of_ble_eq_true rfl, Nat.le_of_ble_eq_true rfl⟩ rfl (Nat.le_of_ble_eq_true rfl) (by decide +kernel) ?_
        have hR := hE.2.2.2.2.2.1 q
        have hx : xroom S (nI q) (nI 3) = cl S 1 (nI q) 3 := by unfold xroom; rw [if_pos zc5]; exact sw_in (n := 7) (j := 3) (by decide) (by decide)
        rw [hx]
        exact g_iret (by decide +kernel) ⟨congrArg (fun z => some (vI z)) ((hR 3 hq (by decide)).trans (cl3 (by omega)).symm), σ, f, rfl, h.le (by omega), FrM.rf⟩
      | 4, hj =>
        refine g_tabI (dflt := 83) (lo := 0) (hi := 6) (offs := #[41, 41, 41, 41, 48, 62, 76]) (len := 41) (off := 48) (tgt := 59) (by decide +kernel) (by decide) (by decide) rfl (by decide) ?_
        refine g_blk (pc' := 61) (loc' := [some (vR (8, 0, 0)), some (vI (nI q)), some (vI (nI 4))]) (st' := [vI (nI q), vR (8, 0, 0)]) (σ' := sa σ f) fl5_ok [(59, .aload_n 0), (60, .iload_n 1)] (by decide +kernel) rfl rfl ?_
        refine g_callVp (8, 0, 0) [vI (nI q)] [] vl_RX5_80 mi_X5_needsDeep (c_X5_needsDeep l (a := q) rfl (by omega)) rfl rfl rfl rfl ⟨Nat.le_of_ble_eq_true rfl, Nat.le_of_ble_eq_true rfl⟩ rfl (Nat.le_of_ble_eq_true rfl) (by decide +kernel) ?_
        refine g_if_eq (off := 7) (tgt := 71) (by decide +kernel) (by decide) (fun zc64 => ?_) (fun zc64 => ?_)
        · refine g_blk (pc' := 72) (loc' := [some (vR (8, 0, 0)), some (vI (nI q)), some (vI (nI 4))]) (st' := [vI (0 : Int32)]) (σ' := sa σ f) fl5_ok [(71, .iconst 0)] (by decide +kernel) rfl rfl ?_
          have hR := hE.2.2.2.2.2.1 q
          rw [deepM_eq hE hq] at zc64
          have hx : xroom S (nI q) (nI 4) = bitS (deepS S (nI q)) := by unfold xroom; rw [if_pos zc5]; exact sw_in (n := 7) (j := 4) (by decide) (by decide)
          rw [hx]
          exact g_iret (by decide +kernel) ⟨congrArg (fun z => some (vI z)) ((by rw [zc64]; rfl : (0 : Int32) = bitS (deepS S (nI q)))), σ, f, rfl, h.le (by omega), FrM.rf⟩
        · refine g_blk (pc' := 72) (loc' := [some (vR (8, 0, 0)), some (vI (nI q)), some (vI (nI 4))]) (st' := [vI (1 : Int32)]) (σ' := sa σ f) fl5_ok [(67, .iconst 1), (68, .goto 4)] (by decide +kernel) rfl rfl ?_
          have hR := hE.2.2.2.2.2.1 q
          rw [deepM_eq hE hq] at zc64
          have hx : xroom S (nI q) (nI 4) = bitS (deepS S (nI q)) := by unfold xroom; rw [if_pos zc5]; exact sw_in (n := 7) (j := 4) (by decide) (by decide)
          rw [hx]
          exact g_iret (by decide +kernel) ⟨congrArg (fun z => some (vI z)) ((by rw [bitS, if_neg zc64] : (1 : Int32) = bitS (deepS S (nI q)))), σ, f, rfl, h.le (by omega), FrM.rf⟩
      | 5, hj =>
        refine g_tabI (dflt := 83) (lo := 0) (hi := 6) (offs := #[41, 41, 41, 41, 48, 62, 76]) (len := 41) (off := 62) (tgt := 73) (by decide +kernel) (by decide) (by decide) rfl (by decide) ?_
        refine g_blk (pc' := 75) (loc' := [some (vR (8, 0, 0)), some (vI (nI q)), some (vI (nI 5))]) (st' := [vI (nI q), vR (8, 0, 0)]) (σ' := sa σ f) fl5_ok [(73, .aload_n 0), (74, .iload_n 1)] (by decide +kernel) rfl rfl ?_
        refine g_callVp (8, 0, 0) [vI (nI q)] [] vl_RX5_86 mi_X5_isDue (c_X5_isDue l (a := q) rfl (by omega) (per_ne hE hV _ (by omega))) rfl rfl rfl rfl ⟨Nat.le_of_ble_eq_true rfl, Nat.le_of_ble_eq_true rfl⟩ rfl (Nat.le_of_ble_eq_true rfl) (by decide +kernel) ?_
        refine g_if_eq (off := 7) (tgt := 85) (by decide +kernel) (by decide) (fun zc78 => ?_) (fun zc78 => ?_)
        · refine g_blk (pc' := 86) (loc' := [some (vR (8, 0, 0)), some (vI (nI q)), some (vI (nI 5))]) (st' := [vI (0 : Int32)]) (σ' := sa σ f) fl5_ok [(85, .iconst 0)] (by decide +kernel) rfl rfl ?_
          have hR := hE.2.2.2.2.2.1 q
          rw [dueM_eq hE hV hq] at zc78
          have hx : xroom S (nI q) (nI 5) = bitS (dueS S (nI q)) := by unfold xroom; rw [if_pos zc5]; exact sw_in (n := 7) (j := 5) (by decide) (by decide)
          rw [hx]
          exact g_iret (by decide +kernel) ⟨congrArg (fun z => some (vI z)) ((by rw [zc78]; rfl : (0 : Int32) = bitS (dueS S (nI q)))), σ, f, rfl, h.le (by omega), FrM.rf⟩
        · refine g_blk (pc' := 86) (loc' := [some (vR (8, 0, 0)), some (vI (nI q)), some (vI (nI 5))]) (st' := [vI (1 : Int32)]) (σ' := sa σ f) fl5_ok [(81, .iconst 1), (82, .goto 4)] (by decide +kernel) rfl rfl ?_
          have hR := hE.2.2.2.2.2.1 q
          rw [dueM_eq hE hV hq] at zc78
          have hx : xroom S (nI q) (nI 5) = bitS (dueS S (nI q)) := by unfold xroom; rw [if_pos zc5]; exact sw_in (n := 7) (j := 5) (by decide) (by decide)
          rw [hx]
          exact g_iret (by decide +kernel) ⟨congrArg (fun z => some (vI z)) ((by rw [bitS, if_neg zc78] : (1 : Int32) = bitS (dueS S (nI q)))), σ, f, rfl, h.le (by omega), FrM.rf⟩
      | 6, hj =>
        refine g_tabI (dflt := 83) (lo := 0) (hi := 6) (offs := #[41, 41, 41, 41, 48, 62, 76]) (len := 41) (off := 76) (tgt := 87) (by decide +kernel) (by decide) (by decide) rfl (by decide) ?_
        refine g_blk (pc' := 90) (loc' := [some (vR (8, 0, 0)), some (vI (nI q)), some (vI (nI 6))]) (st' := [vI (4 : Int32), vI (nI q), vR (8, 0, 0)]) (σ' := sa σ f) fl5_ok [(87, .aload_n 0), (88, .iload_n 1), (89, .iconst 4)] (by decide +kernel) rfl rfl ?_
        refine g_callVp (8, 0, 0) [vI (nI q), vI (4 : Int32)] [] vl_RX5_62 mi_X5_ofArea (c_X5_ofArea l (r := q) (c := 4) rfl rfl (by omega) (by omega)) rfl rfl rfl rfl ⟨Nat.le_of_ble_eq_true rfl, Nat.le_of_ble_eq_true rfl⟩ rfl (Nat.le_of_ble_eq_true rfl) (by decide +kernel) ?_
        have hR := hE.2.2.2.2.2.1 q
        have hx : xroom S (nI q) (nI 6) = cl S 1 (nI q) 4 := by unfold xroom; rw [if_pos zc5]; exact sw_in (n := 7) (j := 6) (by decide) (by decide)
        rw [hx]
        exact g_iret (by decide +kernel) ⟨congrArg (fun z => some (vI z)) ((hR 4 hq (by decide)).trans (cl4 (by omega)).symm), σ, f, rfl, h.le (by omega), FrM.rf⟩
      | j + 7, hj => exact absurd hj (by omega)
  · refine g_blk (pc' := 9) (loc' := [some (vR (8, 0, 0)), some (vI a), some (vI w)]) (st' := [vI (-1 : Int32)]) (σ' := sa σ f) fl5_ok [(8, .iconst (-1))] (by decide +kernel) rfl rfl ?_
    have hx : xroom S a w = -1 := by rw [xroom, if_neg (not_not_intro zc5)]
    rw [hx]
    exact g_iret (by decide +kernel) ⟨rfl, σ, f, rfl, h.le (by omega), FrM.rf⟩
theorem sw_no {N : Nat} (hN : N + 1 < 2 ^ 31) {x : Int32} {g : Nat → Int32} {d : Int32} (h : isInS x 0 (nI N) = 0) : sw (N + 1) x g d = d := by
  rcases pk_ix x (n := N + 1) hN with z | z | ⟨j, hj, rfl⟩
  · exact sw_lo z
  · exact sw_hi z
  · rw [isInS, if_neg (nI_pos (by omega)), if_neg (by rw [nI_ltI (by omega) (by omega)]; omega)] at h
    exact absurd h (by decide)
theorem xtask_in {S : HA} {t : Int32} {j : Nat} (hj : j ≤ 4) (h : ¬ hasT t (sz S 2) = 0) : xtask S t (nI j) = cl S 2 t (nI j) := by
  unfold xtask
  rw [if_pos h, sw_in (by decide) (show j < 5 by omega)]
  rcases (show j = 0 ∨ j = 1 ∨ j = 2 ∨ j = 3 ∨ j = 4 by omega) with q | q | q | q | q <;> subst q <;> rfl
set_option maxHeartbeats 2000000 in
theorem m_task (l : Launch) {σ : Sg} {f : Nat → Int32} {S : HA} {Hs : List HA} {P : PV} {n : Nat} (h : Mq_ S Hs P n f σ) (hn : n ≤ 1000000) (t w : Int32) : Con l 1 yX5_task cX5_task 3 (some .int) [vR (8, 0, 0), vI t, vI w] (sa σ f) (Mp_ (xtask S t w, ((S, (Hs, P)) : XS)) n σ) := by
  obtain ⟨hE, hV, ⟨h3, h6⟩, hA, h5, hP⟩ := id h
  obtain ⟨hb0, hb1, hb2, hb3⟩ := hE.1
  have hnr := hE.2.2.1.1
  have hna := hE.2.2.1.2.1
  have hnt := hE.2.2.1.2.2.1
  have hns := hE.2.2.1.2.2.2
  refine con_of pn_X5_task (Nat.le_of_ble_eq_true rfl) (fun hPK hok => ?_)
  show G l (Rm 1) RX5 cX5_task 3 (some .int) _ 0 [some (vR (8, 0, 0)), some (vI t), some (vI w)] [] (sa σ f)
  refine g_blk (pc' := 2) (loc' := [some (vR (8, 0, 0)), some (vI t), some (vI w)]) (st' := [vI t, vR (8, 0, 0)]) (σ' := sa σ f) fl5_ok [(0, .aload_n 0), (1, .iload_n 1)] (by decide +kernel) rfl rfl ?_
  refine g_callVp (8, 0, 0) [vI t] [] vl_RX5_112 mi_X5_isTask (c_X5_isTask l (n := (sz S 2)) t hnt (by omega)) rfl rfl rfl rfl ⟨Nat.le_of_ble_eq_true rfl, Nat.le_of_ble_eq_true rfl⟩ rfl (Nat.le_of_ble_eq_true rfl) (by decide +kernel) ?_
  refine g_if_ne (off := 5) (tgt := 10) (by decide +kernel) (by decide) (fun zc5 => ?_) (fun zc5 => ?_)
  · obtain ⟨k, hk, rfl⟩ := has_ex (by omega) zc5
    refine g_blk (pc' := 13) (loc' := [some (vR (8, 0, 0)), some (vI (nI k)), some (vI w)]) (st' := [vI (4 : Int32), vI (0 : Int32), vI w]) (σ' := sa σ f) fl5_ok [(10, .iload_n 2), (11, .iconst 0), (12, .iconst 4)] (by decide +kernel) rfl rfl ?_
    refine g_callSp [vI w, vI (0 : Int32), vI (4 : Int32)] [] sl_RX5_29 mi_X5_in (c_X5_in l w (0 : Int32) (4 : Int32)) rfl ⟨Nat.le_of_ble_eq_true rfl, Nat.le_of_ble_eq_true rfl⟩ rfl (Nat.le_of_ble_eq_true rfl) (by decide +kernel) ?_
    refine g_if_eq (off := 12) (tgt := 28) (by decide +kernel) (by decide) (fun zc16 => ?_) (fun zc16 => ?_)
    · refine g_blk (pc' := 30) (loc' := [some (vR (8, 0, 0)), some (vI (nI k)), some (vI w)]) (st' := [vI (-2 : Int32)]) (σ' := sa σ f) fl5_ok [(28, .bipush (-2))] (by decide +kernel) rfl rfl ?_
      have hx : xtask S (nI k) w = -2 := by rw [xtask, if_pos zc5]; exact sw_no (N := 4) (by decide) zc16
      rw [hx]
      exact g_iret (by decide +kernel) ⟨rfl, σ, f, rfl, h.le (by omega), FrM.rf⟩
    · obtain ⟨j, -, hj, rfl⟩ := in_nat (a := 0) (b := 4) (by decide) (by decide) zc16
      refine g_blk (pc' := 22) (loc' := [some (vR (8, 0, 0)), some (vI (nI k)), some (vI (nI j))]) (st' := [vI (nI j), vI (nI k), vR (8, 0, 0)]) (σ' := sa σ f) fl5_ok [(19, .aload_n 0), (20, .iload_n 1), (21, .iload_n 2)] (by decide +kernel) rfl rfl ?_
      refine g_callVp (8, 0, 0) [vI (nI k), vI (nI j)] [] vl_RX5_65 mi_X5_ofTask (c_X5_ofTask l (r := k) (c := j) rfl rfl (by omega) (by omega)) rfl rfl rfl rfl ⟨Nat.le_of_ble_eq_true rfl, Nat.le_of_ble_eq_true rfl⟩ rfl (Nat.le_of_ble_eq_true rfl) (by decide +kernel) ?_
      refine g_blk (pc' := 30) (loc' := [some (vR (8, 0, 0)), some (vI (nI k)), some (vI (nI j))]) (st' := [vI (mk f k j)]) (σ' := sa σ f) fl5_ok [(25, .goto 5)] (by decide +kernel) rfl rfl ?_
      have hx : xtask S (nI k) (nI j) = cl S 2 (nI k) (nI j) := by exact xtask_in hj zc5
      rw [hx]
      exact g_iret (by decide +kernel) ⟨congrArg (fun z => some (vI z)) ((hE.2.2.2.2.2.2.1 k j hk (by omega)).trans (cl_n (by omega) (by omega)).symm), σ, f, rfl, h.le (by omega), FrM.rf⟩
  · refine g_blk (pc' := 9) (loc' := [some (vR (8, 0, 0)), some (vI t), some (vI w)]) (st' := [vI (-1 : Int32)]) (σ' := sa σ f) fl5_ok [(8, .iconst (-1))] (by decide +kernel) rfl rfl ?_
    have hx : xtask S t w = -1 := by rw [xtask, if_neg (not_not_intro zc5)]
    rw [hx]
    exact g_iret (by decide +kernel) ⟨rfl, σ, f, rfl, h.le (by omega), FrM.rf⟩
set_option maxHeartbeats 2000000 in
theorem m_swap (l : Launch) {σ : Sg} {f : Nat → Int32} {S : HA} {Hs : List HA} {P : PV} {n : Nat} (h : Mq_ S Hs P n f σ) (hn : n ≤ 1000000) (s w : Int32) : Con l 1 yX5_swap cX5_swap 3 (some .int) [vR (8, 0, 0), vI s, vI w] (sa σ f) (Mp_ (xswap S s w, ((S, (Hs, P)) : XS)) n σ) := by
  obtain ⟨hE, hV, ⟨h3, h6⟩, hA, h5, hP⟩ := id h
  obtain ⟨hb0, hb1, hb2, hb3⟩ := hE.1
  have hnr := hE.2.2.1.1
  have hna := hE.2.2.1.2.1
  have hnt := hE.2.2.1.2.2.1
  have hns := hE.2.2.1.2.2.2
  refine con_of pn_X5_swap (Nat.le_of_ble_eq_true rfl) (fun hPK hok => ?_)
  show G l (Rm 1) RX5 cX5_swap 3 (some .int) _ 0 [some (vR (8, 0, 0)), some (vI s), some (vI w)] [] (sa σ f)
  refine g_blk (pc' := 1) (loc' := [some (vR (8, 0, 0)), some (vI s), some (vI w)]) (st' := [vI s]) (σ' := sa σ f) fl5_ok [(0, .iload_n 1)] (by decide +kernel) rfl rfl ?_
  refine g_if_lt (off := 14) (tgt := 15) (by decide +kernel) (by decide) (fun zc1 => ?_) (fun zc1 => ?_)
  · have zh : hasT s (sz S 3) = 0 := hasT_out (out_lo zc1)
    refine g_blk (pc' := 16) (loc' := [some (vR (8, 0, 0)), some (vI s), some (vI w)]) (st' := [vI (-1 : Int32)]) (σ' := sa σ f) fl5_ok [(15, .iconst (-1))] (by decide +kernel) rfl rfl ?_
    have hx : xswap S s w = -1 := by rw [xswap, if_neg (not_not_intro zh)]
    rw [hx]
    exact g_iret (by decide +kernel) ⟨rfl, σ, f, rfl, h.le (by omega), FrM.rf⟩
  · refine g_blk (pc' := 12) (loc' := [some (vR (8, 0, 0)), some (vI s), some (vI w)]) (st' := [vI (f 7), vI s]) (σ' := sa σ f) fl5_ok [(4, .iload_n 1), (5, .aload_n 0), (6, .getfield 7), (9, .bipush 7), (11, .iaload)] (by decide +kernel) rfl rfl ?_
    refine g_icmp_lt (off := 5) (tgt := 17) (by decide +kernel) (by decide) (fun zc12 => ?_) (fun zc12 => ?_)
    · rw [hns] at zc12
      obtain ⟨k, hk, rfl⟩ := in_of (n := sz S 3) (by omega) zc1 (Int32.not_le.mpr zc12)
      have zh : ¬ hasT (nI k) (sz S 3) = 0 := by rw [hasT_in (vp_in_nI hk (by omega))]; decide
      refine g_blk (pc' := 20) (loc' := [some (vR (8, 0, 0)), some (vI (nI k)), some (vI w)]) (st' := [vI (3 : Int32), vI (0 : Int32), vI w]) (σ' := sa σ f) fl5_ok [(17, .iload_n 2), (18, .iconst 0), (19, .iconst 3)] (by decide +kernel) rfl rfl ?_
      refine g_callSp [vI w, vI (0 : Int32), vI (3 : Int32)] [] sl_RX5_29 mi_X5_in (c_X5_in l w (0 : Int32) (3 : Int32)) rfl ⟨Nat.le_of_ble_eq_true rfl, Nat.le_of_ble_eq_true rfl⟩ rfl (Nat.le_of_ble_eq_true rfl) (by decide +kernel) ?_
      refine g_if_ne (off := 6) (tgt := 29) (by decide +kernel) (by decide) (fun zc23 => ?_) (fun zc23 => ?_)
      · obtain ⟨j, -, hj, rfl⟩ := in_nat (a := 0) (b := 3) (by decide) (by decide) zc23
        match j, hj with
        | 0, hj =>
          have ej : nI 0 = (0 : Int32) := rfl
          rw [ej]
          refine g_blk (pc' := 31) (loc' := [some (vR (8, 0, 0)), some (vI (nI k)), some (vI (0 : Int32))]) (st' := [vI (2 : Int32), vI (0 : Int32)]) (σ' := sa σ f) fl5_ok [(29, .iload_n 2), (30, .iconst 2)] (by decide +kernel) rfl rfl ?_
          refine g_icmp_ge (off := 12) (tgt := 43) (by decide +kernel) (by decide) (fun zc31 => ?_) (fun zc31 => ?_)
          · exact absurd zc31 (by decide)
          · refine g_blk (pc' := 37) (loc' := [some (vR (8, 0, 0)), some (vI (nI k)), some (vI (0 : Int32))]) (st' := [vI (0 : Int32), vI (nI k), vR (8, 0, 0)]) (σ' := sa σ f) fl5_ok [(34, .aload_n 0), (35, .iload_n 1), (36, .iload_n 2)] (by decide +kernel) rfl rfl ?_
            refine g_callVp (8, 0, 0) [vI (nI k), vI (0 : Int32)] [] vl_RX5_96 mi_X5_ofSwap (c_X5_ofSwap l (r := k) (c := 0) rfl rfl (by omega) (by omega)) rfl rfl rfl rfl ⟨Nat.le_of_ble_eq_true rfl, Nat.le_of_ble_eq_true rfl⟩ rfl (Nat.le_of_ble_eq_true rfl) (by decide +kernel) ?_
            refine g_blk (pc' := 56) (loc' := [some (vR (8, 0, 0)), some (vI (nI k)), some (vI (0 : Int32))]) (st' := [vI (mw f k 0)]) (σ' := sa σ f) fl5_ok [(40, .goto 16)] (by decide +kernel) rfl rfl ?_
            have hx : xswap S (nI k) 0 = cl S 3 (nI k) 0 := by unfold xswap; rw [if_pos zh]; exact sw_in (n := 4) (j := 0) (by decide) (by decide)
            rw [hx]
            exact g_iret (by decide +kernel) ⟨congrArg (fun z => some (vI z)) ((hE.2.2.2.2.2.2.2 k 0 hk (by decide)).trans (cl0 (by omega)).symm), σ, f, rfl, h.le (by omega), FrM.rf⟩
        | 1, hj =>
          have ej : nI 1 = (1 : Int32) := rfl
          rw [ej]
          refine g_blk (pc' := 31) (loc' := [some (vR (8, 0, 0)), some (vI (nI k)), some (vI (1 : Int32))]) (st' := [vI (2 : Int32), vI (1 : Int32)]) (σ' := sa σ f) fl5_ok [(29, .iload_n 2), (30, .iconst 2)] (by decide +kernel) rfl rfl ?_
          refine g_icmp_ge (off := 12) (tgt := 43) (by decide +kernel) (by decide) (fun zc31 => ?_) (fun zc31 => ?_)
          · exact absurd zc31 (by decide)
          · refine g_blk (pc' := 37) (loc' := [some (vR (8, 0, 0)), some (vI (nI k)), some (vI (1 : Int32))]) (st' := [vI (1 : Int32), vI (nI k), vR (8, 0, 0)]) (σ' := sa σ f) fl5_ok [(34, .aload_n 0), (35, .iload_n 1), (36, .iload_n 2)] (by decide +kernel) rfl rfl ?_
            refine g_callVp (8, 0, 0) [vI (nI k), vI (1 : Int32)] [] vl_RX5_96 mi_X5_ofSwap (c_X5_ofSwap l (r := k) (c := 1) rfl rfl (by omega) (by omega)) rfl rfl rfl rfl ⟨Nat.le_of_ble_eq_true rfl, Nat.le_of_ble_eq_true rfl⟩ rfl (Nat.le_of_ble_eq_true rfl) (by decide +kernel) ?_
            refine g_blk (pc' := 56) (loc' := [some (vR (8, 0, 0)), some (vI (nI k)), some (vI (1 : Int32))]) (st' := [vI (mw f k 1)]) (σ' := sa σ f) fl5_ok [(40, .goto 16)] (by decide +kernel) rfl rfl ?_
            have hx : xswap S (nI k) 1 = cl S 3 (nI k) 1 := by unfold xswap; rw [if_pos zh]; exact sw_in (n := 4) (j := 1) (by decide) (by decide)
            rw [hx]
            exact g_iret (by decide +kernel) ⟨congrArg (fun z => some (vI z)) ((hE.2.2.2.2.2.2.2 k 1 hk (by decide)).trans (cl1 (by omega)).symm), σ, f, rfl, h.le (by omega), FrM.rf⟩
        | 2, hj =>
          have ej : nI 2 = (2 : Int32) := rfl
          rw [ej]
          refine g_blk (pc' := 31) (loc' := [some (vR (8, 0, 0)), some (vI (nI k)), some (vI (2 : Int32))]) (st' := [vI (2 : Int32), vI (2 : Int32)]) (σ' := sa σ f) fl5_ok [(29, .iload_n 2), (30, .iconst 2)] (by decide +kernel) rfl rfl ?_
          refine g_icmp_ge (off := 12) (tgt := 43) (by decide +kernel) (by decide) (fun zc31 => ?_) (fun zc31 => ?_)
          · refine g_blk (pc' := 49) (loc' := [some (vR (8, 0, 0)), some (vI (nI k)), some (vI (2 : Int32))]) (st' := [vI (0 : Int32), vI (nI k), vR (8, 0, 0), vR (8, 0, 0)]) (σ' := sa σ f) fl5_ok [(43, .aload_n 0), (44, .aload_n 0), (45, .iload_n 1), (46, .iload_n 2), (47, .iconst 2), (48, .isub)] (by decide +kernel) rfl rfl ?_
            refine g_callVp (8, 0, 0) [vI (nI k), vI (0 : Int32)] [vR (8, 0, 0)] vl_RX5_96 mi_X5_ofSwap (c_X5_ofSwap l (r := k) (c := 0) rfl rfl (by omega) (by omega)) rfl rfl rfl rfl ⟨Nat.le_of_ble_eq_true rfl, Nat.le_of_ble_eq_true rfl⟩ rfl (Nat.le_of_ble_eq_true rfl) (by decide +kernel) ?_
            refine g_blk (pc' := 53) (loc' := [some (vR (8, 0, 0)), some (vI (nI k)), some (vI (2 : Int32))]) (st' := [vI (1 : Int32), vI (mw f k 0), vR (8, 0, 0)]) (σ' := sa σ f) fl5_ok [(52, .iconst 1)] (by decide +kernel) rfl rfl ?_
            obtain ⟨ta, ha, hca, -⟩ := hV.w k 0 hk (by decide)
            have hma : mw f k 0 = nI ta := (hE.2.2.2.2.2.2.2 k 0 hk (by decide)).trans hca
            refine g_callVp (8, 0, 0) [vI (mw f k 0), vI (1 : Int32)] [] vl_RX5_65 mi_X5_ofTask (c_X5_ofTask l (r := ta) (c := 1) hma rfl (by omega) (by omega)) rfl rfl rfl rfl ⟨Nat.le_of_ble_eq_true rfl, Nat.le_of_ble_eq_true rfl⟩ rfl (Nat.le_of_ble_eq_true rfl) (by decide +kernel) ?_
            have hx : xswap S (nI k) 2 = cl S 2 (cl S 3 (nI k) 0) 1 := by unfold xswap; rw [if_pos zh]; exact sw_in (n := 4) (j := 2) (by decide) (by decide)
            rw [hx]
            exact g_iret (by decide +kernel) ⟨congrArg (fun z => some (vI z)) (by rw [cl0 (by omega), hca, cl1 (by omega)]; exact hE.2.2.2.2.2.2.1 ta 1 ha (by decide)), σ, f, rfl, h.le (by omega), FrM.rf⟩
          · exact absurd zc31 (by decide)
        | 3, hj =>
          have ej : nI 3 = (3 : Int32) := rfl
          rw [ej]
          refine g_blk (pc' := 31) (loc' := [some (vR (8, 0, 0)), some (vI (nI k)), some (vI (3 : Int32))]) (st' := [vI (2 : Int32), vI (3 : Int32)]) (σ' := sa σ f) fl5_ok [(29, .iload_n 2), (30, .iconst 2)] (by decide +kernel) rfl rfl ?_
          refine g_icmp_ge (off := 12) (tgt := 43) (by decide +kernel) (by decide) (fun zc31 => ?_) (fun zc31 => ?_)
          · refine g_blk (pc' := 49) (loc' := [some (vR (8, 0, 0)), some (vI (nI k)), some (vI (3 : Int32))]) (st' := [vI (1 : Int32), vI (nI k), vR (8, 0, 0), vR (8, 0, 0)]) (σ' := sa σ f) fl5_ok [(43, .aload_n 0), (44, .aload_n 0), (45, .iload_n 1), (46, .iload_n 2), (47, .iconst 2), (48, .isub)] (by decide +kernel) rfl rfl ?_
            refine g_callVp (8, 0, 0) [vI (nI k), vI (1 : Int32)] [vR (8, 0, 0)] vl_RX5_96 mi_X5_ofSwap (c_X5_ofSwap l (r := k) (c := 1) rfl rfl (by omega) (by omega)) rfl rfl rfl rfl ⟨Nat.le_of_ble_eq_true rfl, Nat.le_of_ble_eq_true rfl⟩ rfl (Nat.le_of_ble_eq_true rfl) (by decide +kernel) ?_
            refine g_blk (pc' := 53) (loc' := [some (vR (8, 0, 0)), some (vI (nI k)), some (vI (3 : Int32))]) (st' := [vI (1 : Int32), vI (mw f k 1), vR (8, 0, 0)]) (σ' := sa σ f) fl5_ok [(52, .iconst 1)] (by decide +kernel) rfl rfl ?_
            obtain ⟨ta, ha, hca, -⟩ := hV.w k 1 hk (by decide)
            have hma : mw f k 1 = nI ta := (hE.2.2.2.2.2.2.2 k 1 hk (by decide)).trans hca
            refine g_callVp (8, 0, 0) [vI (mw f k 1), vI (1 : Int32)] [] vl_RX5_65 mi_X5_ofTask (c_X5_ofTask l (r := ta) (c := 1) hma rfl (by omega) (by omega)) rfl rfl rfl rfl ⟨Nat.le_of_ble_eq_true rfl, Nat.le_of_ble_eq_true rfl⟩ rfl (Nat.le_of_ble_eq_true rfl) (by decide +kernel) ?_
            have hx : xswap S (nI k) 3 = cl S 2 (cl S 3 (nI k) 1) 1 := by unfold xswap; rw [if_pos zh]; exact sw_in (n := 4) (j := 3) (by decide) (by decide)
            rw [hx]
            exact g_iret (by decide +kernel) ⟨congrArg (fun z => some (vI z)) (by rw [cl1 (by omega), hca, cl1 (by omega)]; exact hE.2.2.2.2.2.2.1 ta 1 ha (by decide)), σ, f, rfl, h.le (by omega), FrM.rf⟩
          · exact absurd zc31 (by decide)
        | j + 4, hj => exact absurd hj (by omega)
      · refine g_blk (pc' := 28) (loc' := [some (vR (8, 0, 0)), some (vI (nI k)), some (vI w)]) (st' := [vI (-2 : Int32)]) (σ' := sa σ f) fl5_ok [(26, .bipush (-2))] (by decide +kernel) rfl rfl ?_
        have hx : xswap S (nI k) w = -2 := by rw [xswap, if_pos zh]; exact sw_no (N := 3) (by decide) zc23
        rw [hx]
        exact g_iret (by decide +kernel) ⟨rfl, σ, f, rfl, h.le (by omega), FrM.rf⟩
    · rw [hns] at zc12
      have zh : hasT s (sz S 3) = 0 := hasT_out (out_hi (by omega) (Int32.not_lt.mp zc12))
      refine g_blk (pc' := 16) (loc' := [some (vR (8, 0, 0)), some (vI s), some (vI w)]) (st' := [vI (-1 : Int32)]) (σ' := sa σ f) fl5_ok [(15, .iconst (-1))] (by decide +kernel) rfl rfl ?_
      have hx : xswap S s w = -1 := by rw [xswap, if_neg (not_not_intro zh)]
      rw [hx]
      exact g_iret (by decide +kernel) ⟨rfl, σ, f, rfl, h.le (by omega), FrM.rf⟩
set_option maxHeartbeats 2000000 in
theorem m_count (l : Launch) {σ : Sg} {f : Nat → Int32} {S : HA} {Hs : List HA} {P : PV} {n : Nat} (h : Mq_ S Hs P n f σ) (hn : n ≤ 1000000) (w : Int32) : Con l 3 yX5_count cX5_count 2 (some .int) [vR (8, 0, 0), vI w] (sa σ f) (Mp_ (xcount S Hs P w, ((S, (Hs, P)) : XS)) n σ) := by
  obtain ⟨hE, hV, ⟨h3, h6⟩, hA, h5, hP⟩ := id h
  obtain ⟨hb0, hb1, hb2, hb3⟩ := hE.1
  have hnr := hE.2.2.1.1
  have hna := hE.2.2.1.2.1
  have hnt := hE.2.2.1.2.2.1
  have hns := hE.2.2.1.2.2.2
  refine con_of pn_X5_count (Nat.le_of_ble_eq_true rfl) (fun hPK hok => ?_)
  show G l (Rm 3) RX5 cX5_count 2 (some .int) _ 0 [some (vR (8, 0, 0)), some (vI w)] [] (sa σ f)
  rcases pk_ix w (n := 17) (by decide) with zq | zq | ⟨j, hj, rfl⟩
  · refine g_blk (pc' := 3) (loc' := [some (vR (8, 0, 0)), some (vI w)]) (st' := [vI (3 : Int32), vI (0 : Int32), vI w]) (σ' := sa σ f) fl5_ok [(0, .iload_n 1), (1, .iconst 0), (2, .iconst 3)] (by decide +kernel) rfl rfl ?_
    refine g_callSp [vI w, vI (0 : Int32), vI (3 : Int32)] [] sl_RX5_29 mi_X5_in (c_X5_in l w (0 : Int32) (3 : Int32)) rfl ⟨Nat.le_of_ble_eq_true rfl, Nat.le_of_ble_eq_true rfl⟩ rfl (Nat.le_of_ble_eq_true rfl) (by decide +kernel) ?_
    refine g_if_eq (off := 10) (tgt := 16) (by decide +kernel) (by decide) (fun zc6 => ?_) (fun zc6 => ?_)
    · refine g_blk (pc' := 21) (loc' := [some (vR (8, 0, 0)), some (vI w)]) (st' := [vI (16 : Int32), vI (13 : Int32), vI w]) (σ' := sa σ f) fl5_ok [(16, .iload_n 1), (17, .bipush 13), (19, .bipush 16)] (by decide +kernel) rfl rfl ?_
      refine g_callSp [vI w, vI (13 : Int32), vI (16 : Int32)] [] sl_RX5_29 mi_X5_in (c_X5_in l w (13 : Int32) (16 : Int32)) rfl ⟨Nat.le_of_ble_eq_true rfl, Nat.le_of_ble_eq_true rfl⟩ rfl (Nat.le_of_ble_eq_true rfl) (by decide +kernel) ?_
      refine g_if_eq (off := 12) (tgt := 36) (by decide +kernel) (by decide) (fun zc24 => ?_) (fun zc24 => ?_)
      · refine g_blk (pc' := 37) (loc' := [some (vR (8, 0, 0)), some (vI w)]) (st' := [vI w]) (σ' := sa σ f) fl5_ok [(36, .iload_n 1)] (by decide +kernel) rfl rfl ?_
        refine g_tabO (dflt := 108) (lo := 4) (hi := 12) (offs := #[51, 56, 63, 71, 79, 86, 92, 98, 103]) (len := 51) (tgt := 145) (by decide +kernel) (Or.inl (Int.lt_trans (tab_lo zq) (by decide))) (by decide) ?_
        refine g_blk (pc' := 147) (loc' := [some (vR (8, 0, 0)), some (vI w)]) (st' := [vI (-2 : Int32)]) (σ' := sa σ f) fl5_ok [(145, .bipush (-2))] (by decide +kernel) rfl rfl ?_
        have hx : xcount S Hs P w = -2 := by unfold xcount; exact sw_lo zq
        rw [hx]
        exact g_iret (by decide +kernel) ⟨rfl, σ, f, rfl, h.le (by omega), FrM.rf⟩
      · obtain ⟨j, j1, j2, e⟩ := in_nat (a := 13) (b := 16) (by decide) (by decide) zc24
        rw [e] at zq
        exact absurd zq (nI_pos (by omega))
    · obtain ⟨j, j1, j2, e⟩ := in_nat (a := 0) (b := 3) (by decide) (by decide) zc6
      rw [e] at zq
      exact absurd zq (nI_pos (by omega))
  · refine g_blk (pc' := 3) (loc' := [some (vR (8, 0, 0)), some (vI w)]) (st' := [vI (3 : Int32), vI (0 : Int32), vI w]) (σ' := sa σ f) fl5_ok [(0, .iload_n 1), (1, .iconst 0), (2, .iconst 3)] (by decide +kernel) rfl rfl ?_
    refine g_callSp [vI w, vI (0 : Int32), vI (3 : Int32)] [] sl_RX5_29 mi_X5_in (c_X5_in l w (0 : Int32) (3 : Int32)) rfl ⟨Nat.le_of_ble_eq_true rfl, Nat.le_of_ble_eq_true rfl⟩ rfl (Nat.le_of_ble_eq_true rfl) (by decide +kernel) ?_
    refine g_if_eq (off := 10) (tgt := 16) (by decide +kernel) (by decide) (fun zc6 => ?_) (fun zc6 => ?_)
    · refine g_blk (pc' := 21) (loc' := [some (vR (8, 0, 0)), some (vI w)]) (st' := [vI (16 : Int32), vI (13 : Int32), vI w]) (σ' := sa σ f) fl5_ok [(16, .iload_n 1), (17, .bipush 13), (19, .bipush 16)] (by decide +kernel) rfl rfl ?_
      refine g_callSp [vI w, vI (13 : Int32), vI (16 : Int32)] [] sl_RX5_29 mi_X5_in (c_X5_in l w (13 : Int32) (16 : Int32)) rfl ⟨Nat.le_of_ble_eq_true rfl, Nat.le_of_ble_eq_true rfl⟩ rfl (Nat.le_of_ble_eq_true rfl) (by decide +kernel) ?_
      refine g_if_eq (off := 12) (tgt := 36) (by decide +kernel) (by decide) (fun zc24 => ?_) (fun zc24 => ?_)
      · refine g_blk (pc' := 37) (loc' := [some (vR (8, 0, 0)), some (vI w)]) (st' := [vI w]) (σ' := sa σ f) fl5_ok [(36, .iload_n 1)] (by decide +kernel) rfl rfl ?_
        refine g_tabO (dflt := 108) (lo := 4) (hi := 12) (offs := #[51, 56, 63, 71, 79, 86, 92, 98, 103]) (len := 51) (tgt := 145) (by decide +kernel) (Or.inr (by have := tab_hi 16 (by decide) zq; omega)) (by decide) ?_
        refine g_blk (pc' := 147) (loc' := [some (vR (8, 0, 0)), some (vI w)]) (st' := [vI (-2 : Int32)]) (σ' := sa σ f) fl5_ok [(145, .bipush (-2))] (by decide +kernel) rfl rfl ?_
        have hx : xcount S Hs P w = -2 := by unfold xcount; exact sw_hi zq
        rw [hx]
        exact g_iret (by decide +kernel) ⟨rfl, σ, f, rfl, h.le (by omega), FrM.rf⟩
      · obtain ⟨j, j1, j2, e⟩ := in_nat (a := 13) (b := 16) (by decide) (by decide) zc24
        rw [e] at zq
        exact absurd zq (nI_ge (by omega) (by decide))
    · obtain ⟨j, j1, j2, e⟩ := in_nat (a := 0) (b := 3) (by decide) (by decide) zc6
      rw [e] at zq
      exact absurd zq (nI_ge (by omega) (by decide))
  · match j, hj with
    | 0, hj =>
      have ej : nI 0 = (0 : Int32) := rfl
      rw [ej]
      refine g_blk (pc' := 3) (loc' := [some (vR (8, 0, 0)), some (vI (0 : Int32))]) (st' := [vI (3 : Int32), vI (0 : Int32), vI (0 : Int32)]) (σ' := sa σ f) fl5_ok [(0, .iload_n 1), (1, .iconst 0), (2, .iconst 3)] (by decide +kernel) rfl rfl ?_
      refine g_callSp [vI (0 : Int32), vI (0 : Int32), vI (3 : Int32)] [] sl_RX5_29 mi_X5_in (c_X5_in l (0 : Int32) (0 : Int32) (3 : Int32)) rfl ⟨Nat.le_of_ble_eq_true rfl, Nat.le_of_ble_eq_true rfl⟩ rfl (Nat.le_of_ble_eq_true rfl) (by decide +kernel) ?_
      refine g_if_eq (off := 10) (tgt := 16) (by decide +kernel) (by decide) (fun zc6 => ?_) (fun zc6 => ?_)
      · exact absurd zc6 (by decide)
      · refine g_blk (pc' := 15) (loc' := [some (vR (8, 0, 0)), some (vI (0 : Int32))]) (st' := [vI (f 0)]) (σ' := sa σ f) fl5_ok [(9, .aload_n 0), (10, .getfield 7), (13, .iload_n 1), (14, .iaload)] (by decide +kernel) rfl rfl ?_
        have hx : xcount S Hs P 0 = S.2 5 := by unfold xcount; exact sw_in (n := 17) (j := 0) (by decide) (by decide)
        rw [hx]
        exact g_iret (by decide +kernel) ⟨congrArg (fun z => some (vI z)) (hE.2.1.1), σ, f, rfl, h.le (by omega), FrM.rf⟩
    | 1, hj =>
      have ej : nI 1 = (1 : Int32) := rfl
      rw [ej]
      refine g_blk (pc' := 3) (loc' := [some (vR (8, 0, 0)), some (vI (1 : Int32))]) (st' := [vI (3 : Int32), vI (0 : Int32), vI (1 : Int32)]) (σ' := sa σ f) fl5_ok [(0, .iload_n 1), (1, .iconst 0), (2, .iconst 3)] (by decide +kernel) rfl rfl ?_
      refine g_callSp [vI (1 : Int32), vI (0 : Int32), vI (3 : Int32)] [] sl_RX5_29 mi_X5_in (c_X5_in l (1 : Int32) (0 : Int32) (3 : Int32)) rfl ⟨Nat.le_of_ble_eq_true rfl, Nat.le_of_ble_eq_true rfl⟩ rfl (Nat.le_of_ble_eq_true rfl) (by decide +kernel) ?_
      refine g_if_eq (off := 10) (tgt := 16) (by decide +kernel) (by decide) (fun zc6 => ?_) (fun zc6 => ?_)
      · exact absurd zc6 (by decide)
      · refine g_blk (pc' := 15) (loc' := [some (vR (8, 0, 0)), some (vI (1 : Int32))]) (st' := [vI (f 1)]) (σ' := sa σ f) fl5_ok [(9, .aload_n 0), (10, .getfield 7), (13, .iload_n 1), (14, .iaload)] (by decide +kernel) rfl rfl ?_
        have hx : xcount S Hs P 1 = nI (sz S 0) := by unfold xcount; exact sw_in (n := 17) (j := 1) (by decide) (by decide)
        rw [hx]
        exact g_iret (by decide +kernel) ⟨congrArg (fun z => some (vI z)) (hnr), σ, f, rfl, h.le (by omega), FrM.rf⟩
    | 2, hj =>
      have ej : nI 2 = (2 : Int32) := rfl
      rw [ej]
      refine g_blk (pc' := 3) (loc' := [some (vR (8, 0, 0)), some (vI (2 : Int32))]) (st' := [vI (3 : Int32), vI (0 : Int32), vI (2 : Int32)]) (σ' := sa σ f) fl5_ok [(0, .iload_n 1), (1, .iconst 0), (2, .iconst 3)] (by decide +kernel) rfl rfl ?_
      refine g_callSp [vI (2 : Int32), vI (0 : Int32), vI (3 : Int32)] [] sl_RX5_29 mi_X5_in (c_X5_in l (2 : Int32) (0 : Int32) (3 : Int32)) rfl ⟨Nat.le_of_ble_eq_true rfl, Nat.le_of_ble_eq_true rfl⟩ rfl (Nat.le_of_ble_eq_true rfl) (by decide +kernel) ?_
      refine g_if_eq (off := 10) (tgt := 16) (by decide +kernel) (by decide) (fun zc6 => ?_) (fun zc6 => ?_)
      · exact absurd zc6 (by decide)
      · refine g_blk (pc' := 15) (loc' := [some (vR (8, 0, 0)), some (vI (2 : Int32))]) (st' := [vI (f 2)]) (σ' := sa σ f) fl5_ok [(9, .aload_n 0), (10, .getfield 7), (13, .iload_n 1), (14, .iaload)] (by decide +kernel) rfl rfl ?_
        have hx : xcount S Hs P 2 = nI (sz S 1) := by unfold xcount; exact sw_in (n := 17) (j := 2) (by decide) (by decide)
        rw [hx]
        exact g_iret (by decide +kernel) ⟨congrArg (fun z => some (vI z)) (hna), σ, f, rfl, h.le (by omega), FrM.rf⟩
    | 3, hj =>
      have ej : nI 3 = (3 : Int32) := rfl
      rw [ej]
      refine g_blk (pc' := 3) (loc' := [some (vR (8, 0, 0)), some (vI (3 : Int32))]) (st' := [vI (3 : Int32), vI (0 : Int32), vI (3 : Int32)]) (σ' := sa σ f) fl5_ok [(0, .iload_n 1), (1, .iconst 0), (2, .iconst 3)] (by decide +kernel) rfl rfl ?_
      refine g_callSp [vI (3 : Int32), vI (0 : Int32), vI (3 : Int32)] [] sl_RX5_29 mi_X5_in (c_X5_in l (3 : Int32) (0 : Int32) (3 : Int32)) rfl ⟨Nat.le_of_ble_eq_true rfl, Nat.le_of_ble_eq_true rfl⟩ rfl (Nat.le_of_ble_eq_true rfl) (by decide +kernel) ?_
      refine g_if_eq (off := 10) (tgt := 16) (by decide +kernel) (by decide) (fun zc6 => ?_) (fun zc6 => ?_)
      · exact absurd zc6 (by decide)
      · refine g_blk (pc' := 15) (loc' := [some (vR (8, 0, 0)), some (vI (3 : Int32))]) (st' := [vI (f 3)]) (σ' := sa σ f) fl5_ok [(9, .aload_n 0), (10, .getfield 7), (13, .iload_n 1), (14, .iaload)] (by decide +kernel) rfl rfl ?_
        have hx : xcount S Hs P 3 = nI (sz S 2) := by unfold xcount; exact sw_in (n := 17) (j := 3) (by decide) (by decide)
        rw [hx]
        exact g_iret (by decide +kernel) ⟨congrArg (fun z => some (vI z)) (hnt), σ, f, rfl, h.le (by omega), FrM.rf⟩
    | 4, hj =>
      have ej : nI 4 = (4 : Int32) := rfl
      rw [ej]
      refine g_blk (pc' := 3) (loc' := [some (vR (8, 0, 0)), some (vI (4 : Int32))]) (st' := [vI (3 : Int32), vI (0 : Int32), vI (4 : Int32)]) (σ' := sa σ f) fl5_ok [(0, .iload_n 1), (1, .iconst 0), (2, .iconst 3)] (by decide +kernel) rfl rfl ?_
      refine g_callSp [vI (4 : Int32), vI (0 : Int32), vI (3 : Int32)] [] sl_RX5_29 mi_X5_in (c_X5_in l (4 : Int32) (0 : Int32) (3 : Int32)) rfl ⟨Nat.le_of_ble_eq_true rfl, Nat.le_of_ble_eq_true rfl⟩ rfl (Nat.le_of_ble_eq_true rfl) (by decide +kernel) ?_
      refine g_if_eq (off := 10) (tgt := 16) (by decide +kernel) (by decide) (fun zc6 => ?_) (fun zc6 => ?_)
      · refine g_blk (pc' := 21) (loc' := [some (vR (8, 0, 0)), some (vI (4 : Int32))]) (st' := [vI (16 : Int32), vI (13 : Int32), vI (4 : Int32)]) (σ' := sa σ f) fl5_ok [(16, .iload_n 1), (17, .bipush 13), (19, .bipush 16)] (by decide +kernel) rfl rfl ?_
        refine g_callSp [vI (4 : Int32), vI (13 : Int32), vI (16 : Int32)] [] sl_RX5_29 mi_X5_in (c_X5_in l (4 : Int32) (13 : Int32) (16 : Int32)) rfl ⟨Nat.le_of_ble_eq_true rfl, Nat.le_of_ble_eq_true rfl⟩ rfl (Nat.le_of_ble_eq_true rfl) (by decide +kernel) ?_
        refine g_if_eq (off := 12) (tgt := 36) (by decide +kernel) (by decide) (fun zc24 => ?_) (fun zc24 => ?_)
        · refine g_blk (pc' := 37) (loc' := [some (vR (8, 0, 0)), some (vI (4 : Int32))]) (st' := [vI (4 : Int32)]) (σ' := sa σ f) fl5_ok [(36, .iload_n 1)] (by decide +kernel) rfl rfl ?_
          refine g_tabI (dflt := 108) (lo := 4) (hi := 12) (offs := #[51, 56, 63, 71, 79, 86, 92, 98, 103]) (len := 51) (off := 51) (tgt := 88) (by decide +kernel) (by decide) (by decide) rfl (by decide) ?_
          refine g_blk (pc' := 89) (loc' := [some (vR (8, 0, 0)), some (vI (4 : Int32))]) (st' := [vR (8, 0, 0)]) (σ' := sa σ f) fl5_ok [(88, .aload_n 0)] (by decide +kernel) rfl rfl ?_
          refine g_callVp (8, 0, 0) [] [] vl_RX5_135 mi_X5_openTasks (c_X5_openTasks l (nt := (sz S 2)) hnt (by omega)) rfl rfl rfl rfl ⟨Nat.le_of_ble_eq_true rfl, Nat.le_of_ble_eq_true rfl⟩ rfl (Nat.le_of_ble_eq_true rfl) (by decide +kernel) ?_
          have hx : xcount S Hs P 4 = cntL S (sz S 2) := by unfold xcount; exact sw_in (n := 17) (j := 4) (by decide) (by decide)
          rw [hx]
          exact g_iret (by decide +kernel) ⟨congrArg (fun z => some (vI z)) (open_eq hE _ (Nat.le_refl _)), σ, f, rfl, h.le (by omega), FrM.rf⟩
        · exact absurd zc24 (by decide)
      · exact absurd zc6 (by decide)
    | 5, hj =>
      have ej : nI 5 = (5 : Int32) := rfl
      rw [ej]
      refine g_blk (pc' := 3) (loc' := [some (vR (8, 0, 0)), some (vI (5 : Int32))]) (st' := [vI (3 : Int32), vI (0 : Int32), vI (5 : Int32)]) (σ' := sa σ f) fl5_ok [(0, .iload_n 1), (1, .iconst 0), (2, .iconst 3)] (by decide +kernel) rfl rfl ?_
      refine g_callSp [vI (5 : Int32), vI (0 : Int32), vI (3 : Int32)] [] sl_RX5_29 mi_X5_in (c_X5_in l (5 : Int32) (0 : Int32) (3 : Int32)) rfl ⟨Nat.le_of_ble_eq_true rfl, Nat.le_of_ble_eq_true rfl⟩ rfl (Nat.le_of_ble_eq_true rfl) (by decide +kernel) ?_
      refine g_if_eq (off := 10) (tgt := 16) (by decide +kernel) (by decide) (fun zc6 => ?_) (fun zc6 => ?_)
      · refine g_blk (pc' := 21) (loc' := [some (vR (8, 0, 0)), some (vI (5 : Int32))]) (st' := [vI (16 : Int32), vI (13 : Int32), vI (5 : Int32)]) (σ' := sa σ f) fl5_ok [(16, .iload_n 1), (17, .bipush 13), (19, .bipush 16)] (by decide +kernel) rfl rfl ?_
        refine g_callSp [vI (5 : Int32), vI (13 : Int32), vI (16 : Int32)] [] sl_RX5_29 mi_X5_in (c_X5_in l (5 : Int32) (13 : Int32) (16 : Int32)) rfl ⟨Nat.le_of_ble_eq_true rfl, Nat.le_of_ble_eq_true rfl⟩ rfl (Nat.le_of_ble_eq_true rfl) (by decide +kernel) ?_
        refine g_if_eq (off := 12) (tgt := 36) (by decide +kernel) (by decide) (fun zc24 => ?_) (fun zc24 => ?_)
        · refine g_blk (pc' := 37) (loc' := [some (vR (8, 0, 0)), some (vI (5 : Int32))]) (st' := [vI (5 : Int32)]) (σ' := sa σ f) fl5_ok [(36, .iload_n 1)] (by decide +kernel) rfl rfl ?_
          refine g_tabI (dflt := 108) (lo := 4) (hi := 12) (offs := #[51, 56, 63, 71, 79, 86, 92, 98, 103]) (len := 51) (off := 56) (tgt := 93) (by decide +kernel) (by decide) (by decide) rfl (by decide) ?_
          refine g_blk (pc' := 99) (loc' := [some (vR (8, 0, 0)), some (vI (5 : Int32))]) (st' := [vI (f 5)]) (σ' := sa σ f) fl5_ok [(93, .aload_n 0), (94, .getfield 7), (97, .iconst 5), (98, .iaload)] (by decide +kernel) rfl rfl ?_
          have hx : xcount S Hs P 5 = S.2 7 := by unfold xcount; exact sw_in (n := 17) (j := 5) (by decide) (by decide)
          rw [hx]
          exact g_iret (by decide +kernel) ⟨congrArg (fun z => some (vI z)) (hE.2.1.2.2.1), σ, f, rfl, h.le (by omega), FrM.rf⟩
        · exact absurd zc24 (by decide)
      · exact absurd zc6 (by decide)
    | 6, hj =>
      have ej : nI 6 = (6 : Int32) := rfl
      rw [ej]
      refine g_blk (pc' := 3) (loc' := [some (vR (8, 0, 0)), some (vI (6 : Int32))]) (st' := [vI (3 : Int32), vI (0 : Int32), vI (6 : Int32)]) (σ' := sa σ f) fl5_ok [(0, .iload_n 1), (1, .iconst 0), (2, .iconst 3)] (by decide +kernel) rfl rfl ?_
      refine g_callSp [vI (6 : Int32), vI (0 : Int32), vI (3 : Int32)] [] sl_RX5_29 mi_X5_in (c_X5_in l (6 : Int32) (0 : Int32) (3 : Int32)) rfl ⟨Nat.le_of_ble_eq_true rfl, Nat.le_of_ble_eq_true rfl⟩ rfl (Nat.le_of_ble_eq_true rfl) (by decide +kernel) ?_
      refine g_if_eq (off := 10) (tgt := 16) (by decide +kernel) (by decide) (fun zc6 => ?_) (fun zc6 => ?_)
      · refine g_blk (pc' := 21) (loc' := [some (vR (8, 0, 0)), some (vI (6 : Int32))]) (st' := [vI (16 : Int32), vI (13 : Int32), vI (6 : Int32)]) (σ' := sa σ f) fl5_ok [(16, .iload_n 1), (17, .bipush 13), (19, .bipush 16)] (by decide +kernel) rfl rfl ?_
        refine g_callSp [vI (6 : Int32), vI (13 : Int32), vI (16 : Int32)] [] sl_RX5_29 mi_X5_in (c_X5_in l (6 : Int32) (13 : Int32) (16 : Int32)) rfl ⟨Nat.le_of_ble_eq_true rfl, Nat.le_of_ble_eq_true rfl⟩ rfl (Nat.le_of_ble_eq_true rfl) (by decide +kernel) ?_
        refine g_if_eq (off := 12) (tgt := 36) (by decide +kernel) (by decide) (fun zc24 => ?_) (fun zc24 => ?_)
        · refine g_blk (pc' := 37) (loc' := [some (vR (8, 0, 0)), some (vI (6 : Int32))]) (st' := [vI (6 : Int32)]) (σ' := sa σ f) fl5_ok [(36, .iload_n 1)] (by decide +kernel) rfl rfl ?_
          refine g_tabI (dflt := 108) (lo := 4) (hi := 12) (offs := #[51, 56, 63, 71, 79, 86, 92, 98, 103]) (len := 51) (off := 63) (tgt := 100) (by decide +kernel) (by decide) (by decide) rfl (by decide) ?_
          refine g_blk (pc' := 107) (loc' := [some (vR (8, 0, 0)), some (vI (6 : Int32))]) (st' := [vI (f 6)]) (σ' := sa σ f) fl5_ok [(100, .aload_n 0), (101, .getfield 7), (104, .bipush 6), (106, .iaload)] (by decide +kernel) rfl rfl ?_
          have hx : xcount S Hs P 6 = S.2 8 := by unfold xcount; exact sw_in (n := 17) (j := 6) (by decide) (by decide)
          rw [hx]
          exact g_iret (by decide +kernel) ⟨congrArg (fun z => some (vI z)) (hE.2.1.2.2.2), σ, f, rfl, h.le (by omega), FrM.rf⟩
        · exact absurd zc24 (by decide)
      · exact absurd zc6 (by decide)
    | 7, hj =>
      have ej : nI 7 = (7 : Int32) := rfl
      rw [ej]
      refine g_blk (pc' := 3) (loc' := [some (vR (8, 0, 0)), some (vI (7 : Int32))]) (st' := [vI (3 : Int32), vI (0 : Int32), vI (7 : Int32)]) (σ' := sa σ f) fl5_ok [(0, .iload_n 1), (1, .iconst 0), (2, .iconst 3)] (by decide +kernel) rfl rfl ?_
      refine g_callSp [vI (7 : Int32), vI (0 : Int32), vI (3 : Int32)] [] sl_RX5_29 mi_X5_in (c_X5_in l (7 : Int32) (0 : Int32) (3 : Int32)) rfl ⟨Nat.le_of_ble_eq_true rfl, Nat.le_of_ble_eq_true rfl⟩ rfl (Nat.le_of_ble_eq_true rfl) (by decide +kernel) ?_
      refine g_if_eq (off := 10) (tgt := 16) (by decide +kernel) (by decide) (fun zc6 => ?_) (fun zc6 => ?_)
      · refine g_blk (pc' := 21) (loc' := [some (vR (8, 0, 0)), some (vI (7 : Int32))]) (st' := [vI (16 : Int32), vI (13 : Int32), vI (7 : Int32)]) (σ' := sa σ f) fl5_ok [(16, .iload_n 1), (17, .bipush 13), (19, .bipush 16)] (by decide +kernel) rfl rfl ?_
        refine g_callSp [vI (7 : Int32), vI (13 : Int32), vI (16 : Int32)] [] sl_RX5_29 mi_X5_in (c_X5_in l (7 : Int32) (13 : Int32) (16 : Int32)) rfl ⟨Nat.le_of_ble_eq_true rfl, Nat.le_of_ble_eq_true rfl⟩ rfl (Nat.le_of_ble_eq_true rfl) (by decide +kernel) ?_
        refine g_if_eq (off := 12) (tgt := 36) (by decide +kernel) (by decide) (fun zc24 => ?_) (fun zc24 => ?_)
        · refine g_blk (pc' := 37) (loc' := [some (vR (8, 0, 0)), some (vI (7 : Int32))]) (st' := [vI (7 : Int32)]) (σ' := sa σ f) fl5_ok [(36, .iload_n 1)] (by decide +kernel) rfl rfl ?_
          refine g_tabI (dflt := 108) (lo := 4) (hi := 12) (offs := #[51, 56, 63, 71, 79, 86, 92, 98, 103]) (len := 51) (off := 71) (tgt := 108) (by decide +kernel) (by decide) (by decide) rfl (by decide) ?_
          refine g_blk (pc' := 115) (loc' := [some (vR (8, 0, 0)), some (vI (7 : Int32))]) (st' := [vI (f 7)]) (σ' := sa σ f) fl5_ok [(108, .aload_n 0), (109, .getfield 7), (112, .bipush 7), (114, .iaload)] (by decide +kernel) rfl rfl ?_
          have hx : xcount S Hs P 7 = nI (sz S 3) := by unfold xcount; exact sw_in (n := 17) (j := 7) (by decide) (by decide)
          rw [hx]
          exact g_iret (by decide +kernel) ⟨congrArg (fun z => some (vI z)) (hns), σ, f, rfl, h.le (by omega), FrM.rf⟩
        · exact absurd zc24 (by decide)
      · exact absurd zc6 (by decide)
    | 8, hj =>
      have ej : nI 8 = (8 : Int32) := rfl
      rw [ej]
      refine g_blk (pc' := 3) (loc' := [some (vR (8, 0, 0)), some (vI (8 : Int32))]) (st' := [vI (3 : Int32), vI (0 : Int32), vI (8 : Int32)]) (σ' := sa σ f) fl5_ok [(0, .iload_n 1), (1, .iconst 0), (2, .iconst 3)] (by decide +kernel) rfl rfl ?_
      refine g_callSp [vI (8 : Int32), vI (0 : Int32), vI (3 : Int32)] [] sl_RX5_29 mi_X5_in (c_X5_in l (8 : Int32) (0 : Int32) (3 : Int32)) rfl ⟨Nat.le_of_ble_eq_true rfl, Nat.le_of_ble_eq_true rfl⟩ rfl (Nat.le_of_ble_eq_true rfl) (by decide +kernel) ?_
      refine g_if_eq (off := 10) (tgt := 16) (by decide +kernel) (by decide) (fun zc6 => ?_) (fun zc6 => ?_)
      · refine g_blk (pc' := 21) (loc' := [some (vR (8, 0, 0)), some (vI (8 : Int32))]) (st' := [vI (16 : Int32), vI (13 : Int32), vI (8 : Int32)]) (σ' := sa σ f) fl5_ok [(16, .iload_n 1), (17, .bipush 13), (19, .bipush 16)] (by decide +kernel) rfl rfl ?_
        refine g_callSp [vI (8 : Int32), vI (13 : Int32), vI (16 : Int32)] [] sl_RX5_29 mi_X5_in (c_X5_in l (8 : Int32) (13 : Int32) (16 : Int32)) rfl ⟨Nat.le_of_ble_eq_true rfl, Nat.le_of_ble_eq_true rfl⟩ rfl (Nat.le_of_ble_eq_true rfl) (by decide +kernel) ?_
        refine g_if_eq (off := 12) (tgt := 36) (by decide +kernel) (by decide) (fun zc24 => ?_) (fun zc24 => ?_)
        · refine g_blk (pc' := 37) (loc' := [some (vR (8, 0, 0)), some (vI (8 : Int32))]) (st' := [vI (8 : Int32)]) (σ' := sa σ f) fl5_ok [(36, .iload_n 1)] (by decide +kernel) rfl rfl ?_
          refine g_tabI (dflt := 108) (lo := 4) (hi := 12) (offs := #[51, 56, 63, 71, 79, 86, 92, 98, 103]) (len := 51) (off := 79) (tgt := 116) (by decide +kernel) (by decide) (by decide) rfl (by decide) ?_
          refine g_blk (pc' := 122) (loc' := [some (vR (8, 0, 0)), some (vI (8 : Int32))]) (st' := [vI (f 4)]) (σ' := sa σ f) fl5_ok [(116, .aload_n 0), (117, .getfield 7), (120, .iconst 4), (121, .iaload)] (by decide +kernel) rfl rfl ?_
          have hx : xcount S Hs P 8 = bitS (S.2 6) := by unfold xcount; exact sw_in (n := 17) (j := 8) (by decide) (by decide)
          rw [hx]
          exact g_iret (by decide +kernel) ⟨congrArg (fun z => some (vI z)) (by rw [hE.2.1.2.1]; rcases hV.1.1.1 with z | z <;> rw [z] <;> rfl), σ, f, rfl, h.le (by omega), FrM.rf⟩
        · exact absurd zc24 (by decide)
      · exact absurd zc6 (by decide)
    | 9, hj =>
      have ej : nI 9 = (9 : Int32) := rfl
      rw [ej]
      refine g_blk (pc' := 3) (loc' := [some (vR (8, 0, 0)), some (vI (9 : Int32))]) (st' := [vI (3 : Int32), vI (0 : Int32), vI (9 : Int32)]) (σ' := sa σ f) fl5_ok [(0, .iload_n 1), (1, .iconst 0), (2, .iconst 3)] (by decide +kernel) rfl rfl ?_
      refine g_callSp [vI (9 : Int32), vI (0 : Int32), vI (3 : Int32)] [] sl_RX5_29 mi_X5_in (c_X5_in l (9 : Int32) (0 : Int32) (3 : Int32)) rfl ⟨Nat.le_of_ble_eq_true rfl, Nat.le_of_ble_eq_true rfl⟩ rfl (Nat.le_of_ble_eq_true rfl) (by decide +kernel) ?_
      refine g_if_eq (off := 10) (tgt := 16) (by decide +kernel) (by decide) (fun zc6 => ?_) (fun zc6 => ?_)
      · refine g_blk (pc' := 21) (loc' := [some (vR (8, 0, 0)), some (vI (9 : Int32))]) (st' := [vI (16 : Int32), vI (13 : Int32), vI (9 : Int32)]) (σ' := sa σ f) fl5_ok [(16, .iload_n 1), (17, .bipush 13), (19, .bipush 16)] (by decide +kernel) rfl rfl ?_
        refine g_callSp [vI (9 : Int32), vI (13 : Int32), vI (16 : Int32)] [] sl_RX5_29 mi_X5_in (c_X5_in l (9 : Int32) (13 : Int32) (16 : Int32)) rfl ⟨Nat.le_of_ble_eq_true rfl, Nat.le_of_ble_eq_true rfl⟩ rfl (Nat.le_of_ble_eq_true rfl) (by decide +kernel) ?_
        refine g_if_eq (off := 12) (tgt := 36) (by decide +kernel) (by decide) (fun zc24 => ?_) (fun zc24 => ?_)
        · refine g_blk (pc' := 37) (loc' := [some (vR (8, 0, 0)), some (vI (9 : Int32))]) (st' := [vI (9 : Int32)]) (σ' := sa σ f) fl5_ok [(36, .iload_n 1)] (by decide +kernel) rfl rfl ?_
          refine g_tabI (dflt := 108) (lo := 4) (hi := 12) (offs := #[51, 56, 63, 71, 79, 86, 92, 98, 103]) (len := 51) (off := 86) (tgt := 123) (by decide +kernel) (by decide) (by decide) rfl (by decide) ?_
          refine g_blk (pc' := 125) (loc' := [some (vR (8, 0, 0)), some (vI (9 : Int32))]) (st' := [vI (0 : Int32), vR (8, 0, 0)]) (σ' := sa σ f) fl5_ok [(123, .aload_n 0), (124, .iconst 0)] (by decide +kernel) rfl rfl ?_
          refine g_callVp (8, 0, 0) [vI (0 : Int32)] [] vl_RX5_138 mi_X5_spread (c_X5_spread l (nr := (sz S 0)) (nt := (sz S 2)) (0 : Int32) hnr (by omega) hnt (by omega) (wt_ne hE hV)) rfl rfl rfl rfl ⟨Nat.le_of_ble_eq_true rfl, Nat.le_of_ble_eq_true rfl⟩ rfl (Nat.le_of_ble_eq_true rfl) (by decide +kernel) ?_
          have hx : xcount S Hs P 9 = spreadS S 0 (-6) (-6) 0 := by unfold xcount; exact sw_in (n := 17) (j := 9) (by decide) (by decide)
          rw [hx]
          exact g_iret (by decide +kernel) ⟨congrArg (fun z => some (vI z)) (spread_0 hE hV (by omega)), σ, f, rfl, h.le (by omega), FrM.rf⟩
        · exact absurd zc24 (by decide)
      · exact absurd zc6 (by decide)
    | 10, hj =>
      have ej : nI 10 = (10 : Int32) := rfl
      rw [ej]
      refine g_blk (pc' := 3) (loc' := [some (vR (8, 0, 0)), some (vI (10 : Int32))]) (st' := [vI (3 : Int32), vI (0 : Int32), vI (10 : Int32)]) (σ' := sa σ f) fl5_ok [(0, .iload_n 1), (1, .iconst 0), (2, .iconst 3)] (by decide +kernel) rfl rfl ?_
      refine g_callSp [vI (10 : Int32), vI (0 : Int32), vI (3 : Int32)] [] sl_RX5_29 mi_X5_in (c_X5_in l (10 : Int32) (0 : Int32) (3 : Int32)) rfl ⟨Nat.le_of_ble_eq_true rfl, Nat.le_of_ble_eq_true rfl⟩ rfl (Nat.le_of_ble_eq_true rfl) (by decide +kernel) ?_
      refine g_if_eq (off := 10) (tgt := 16) (by decide +kernel) (by decide) (fun zc6 => ?_) (fun zc6 => ?_)
      · refine g_blk (pc' := 21) (loc' := [some (vR (8, 0, 0)), some (vI (10 : Int32))]) (st' := [vI (16 : Int32), vI (13 : Int32), vI (10 : Int32)]) (σ' := sa σ f) fl5_ok [(16, .iload_n 1), (17, .bipush 13), (19, .bipush 16)] (by decide +kernel) rfl rfl ?_
        refine g_callSp [vI (10 : Int32), vI (13 : Int32), vI (16 : Int32)] [] sl_RX5_29 mi_X5_in (c_X5_in l (10 : Int32) (13 : Int32) (16 : Int32)) rfl ⟨Nat.le_of_ble_eq_true rfl, Nat.le_of_ble_eq_true rfl⟩ rfl (Nat.le_of_ble_eq_true rfl) (by decide +kernel) ?_
        refine g_if_eq (off := 12) (tgt := 36) (by decide +kernel) (by decide) (fun zc24 => ?_) (fun zc24 => ?_)
        · refine g_blk (pc' := 37) (loc' := [some (vR (8, 0, 0)), some (vI (10 : Int32))]) (st' := [vI (10 : Int32)]) (σ' := sa σ f) fl5_ok [(36, .iload_n 1)] (by decide +kernel) rfl rfl ?_
          refine g_tabI (dflt := 108) (lo := 4) (hi := 12) (offs := #[51, 56, 63, 71, 79, 86, 92, 98, 103]) (len := 51) (off := 92) (tgt := 129) (by decide +kernel) (by decide) (by decide) rfl (by decide) ?_
          refine g_blk (pc' := 131) (loc' := [some (vR (8, 0, 0)), some (vI (10 : Int32))]) (st' := [vI (1 : Int32), vR (8, 0, 0)]) (σ' := sa σ f) fl5_ok [(129, .aload_n 0), (130, .iconst 1)] (by decide +kernel) rfl rfl ?_
          refine g_callVp (8, 0, 0) [vI (1 : Int32)] [] vl_RX5_138 mi_X5_spread (c_X5_spread l (nr := (sz S 0)) (nt := (sz S 2)) (1 : Int32) hnr (by omega) hnt (by omega) (wt_ne hE hV)) rfl rfl rfl rfl ⟨Nat.le_of_ble_eq_true rfl, Nat.le_of_ble_eq_true rfl⟩ rfl (Nat.le_of_ble_eq_true rfl) (by decide +kernel) ?_
          have hx : xcount S Hs P 10 = spreadS S 1 (-6) (-6) 0 := by unfold xcount; exact sw_in (n := 17) (j := 10) (by decide) (by decide)
          rw [hx]
          exact g_iret (by decide +kernel) ⟨congrArg (fun z => some (vI z)) (spread_1 hE hV (by omega)), σ, f, rfl, h.le (by omega), FrM.rf⟩
        · exact absurd zc24 (by decide)
      · exact absurd zc6 (by decide)
    | 11, hj =>
      have ej : nI 11 = (11 : Int32) := rfl
      rw [ej]
      refine g_blk (pc' := 3) (loc' := [some (vR (8, 0, 0)), some (vI (11 : Int32))]) (st' := [vI (3 : Int32), vI (0 : Int32), vI (11 : Int32)]) (σ' := sa σ f) fl5_ok [(0, .iload_n 1), (1, .iconst 0), (2, .iconst 3)] (by decide +kernel) rfl rfl ?_
      refine g_callSp [vI (11 : Int32), vI (0 : Int32), vI (3 : Int32)] [] sl_RX5_29 mi_X5_in (c_X5_in l (11 : Int32) (0 : Int32) (3 : Int32)) rfl ⟨Nat.le_of_ble_eq_true rfl, Nat.le_of_ble_eq_true rfl⟩ rfl (Nat.le_of_ble_eq_true rfl) (by decide +kernel) ?_
      refine g_if_eq (off := 10) (tgt := 16) (by decide +kernel) (by decide) (fun zc6 => ?_) (fun zc6 => ?_)
      · refine g_blk (pc' := 21) (loc' := [some (vR (8, 0, 0)), some (vI (11 : Int32))]) (st' := [vI (16 : Int32), vI (13 : Int32), vI (11 : Int32)]) (σ' := sa σ f) fl5_ok [(16, .iload_n 1), (17, .bipush 13), (19, .bipush 16)] (by decide +kernel) rfl rfl ?_
        refine g_callSp [vI (11 : Int32), vI (13 : Int32), vI (16 : Int32)] [] sl_RX5_29 mi_X5_in (c_X5_in l (11 : Int32) (13 : Int32) (16 : Int32)) rfl ⟨Nat.le_of_ble_eq_true rfl, Nat.le_of_ble_eq_true rfl⟩ rfl (Nat.le_of_ble_eq_true rfl) (by decide +kernel) ?_
        refine g_if_eq (off := 12) (tgt := 36) (by decide +kernel) (by decide) (fun zc24 => ?_) (fun zc24 => ?_)
        · refine g_blk (pc' := 37) (loc' := [some (vR (8, 0, 0)), some (vI (11 : Int32))]) (st' := [vI (11 : Int32)]) (σ' := sa σ f) fl5_ok [(36, .iload_n 1)] (by decide +kernel) rfl rfl ?_
          refine g_tabI (dflt := 108) (lo := 4) (hi := 12) (offs := #[51, 56, 63, 71, 79, 86, 92, 98, 103]) (len := 51) (off := 98) (tgt := 135) (by decide +kernel) (by decide) (by decide) rfl (by decide) ?_
          refine g_blk (pc' := 139) (loc' := [some (vR (8, 0, 0)), some (vI (11 : Int32))]) (st' := [vI (σ.1 (8, 0, 0) 5)]) (σ' := sa σ f) fl5_ok [(135, .aload_n 0), (136, .getfield 142)] (by decide +kernel) rfl rfl ?_
          have hx : xcount S Hs P 11 = nI P.1 := by unfold xcount; exact sw_in (n := 17) (j := 11) (by decide) (by decide)
          rw [hx]
          exact g_iret (by decide +kernel) ⟨congrArg (fun z => some (vI z)) (h5), σ, f, rfl, h.le (by omega), FrM.rf⟩
        · exact absurd zc24 (by decide)
      · exact absurd zc6 (by decide)
    | 12, hj =>
      have ej : nI 12 = (12 : Int32) := rfl
      rw [ej]
      refine g_blk (pc' := 3) (loc' := [some (vR (8, 0, 0)), some (vI (12 : Int32))]) (st' := [vI (3 : Int32), vI (0 : Int32), vI (12 : Int32)]) (σ' := sa σ f) fl5_ok [(0, .iload_n 1), (1, .iconst 0), (2, .iconst 3)] (by decide +kernel) rfl rfl ?_
      refine g_callSp [vI (12 : Int32), vI (0 : Int32), vI (3 : Int32)] [] sl_RX5_29 mi_X5_in (c_X5_in l (12 : Int32) (0 : Int32) (3 : Int32)) rfl ⟨Nat.le_of_ble_eq_true rfl, Nat.le_of_ble_eq_true rfl⟩ rfl (Nat.le_of_ble_eq_true rfl) (by decide +kernel) ?_
      refine g_if_eq (off := 10) (tgt := 16) (by decide +kernel) (by decide) (fun zc6 => ?_) (fun zc6 => ?_)
      · refine g_blk (pc' := 21) (loc' := [some (vR (8, 0, 0)), some (vI (12 : Int32))]) (st' := [vI (16 : Int32), vI (13 : Int32), vI (12 : Int32)]) (σ' := sa σ f) fl5_ok [(16, .iload_n 1), (17, .bipush 13), (19, .bipush 16)] (by decide +kernel) rfl rfl ?_
        refine g_callSp [vI (12 : Int32), vI (13 : Int32), vI (16 : Int32)] [] sl_RX5_29 mi_X5_in (c_X5_in l (12 : Int32) (13 : Int32) (16 : Int32)) rfl ⟨Nat.le_of_ble_eq_true rfl, Nat.le_of_ble_eq_true rfl⟩ rfl (Nat.le_of_ble_eq_true rfl) (by decide +kernel) ?_
        refine g_if_eq (off := 12) (tgt := 36) (by decide +kernel) (by decide) (fun zc24 => ?_) (fun zc24 => ?_)
        · refine g_blk (pc' := 37) (loc' := [some (vR (8, 0, 0)), some (vI (12 : Int32))]) (st' := [vI (12 : Int32)]) (σ' := sa σ f) fl5_ok [(36, .iload_n 1)] (by decide +kernel) rfl rfl ?_
          refine g_tabI (dflt := 108) (lo := 4) (hi := 12) (offs := #[51, 56, 63, 71, 79, 86, 92, 98, 103]) (len := 51) (off := 103) (tgt := 140) (by decide +kernel) (by decide) (by decide) rfl (by decide) ?_
          refine g_blk (pc' := 144) (loc' := [some (vR (8, 0, 0)), some (vI (12 : Int32))]) (st' := [vI (σ.1 (8, 0, 0) 3)]) (σ' := sa σ f) fl5_ok [(140, .aload_n 0), (141, .getfield 25)] (by decide +kernel) rfl rfl ?_
          have hx : xcount S Hs P 12 = nI Hs.length := by unfold xcount; exact sw_in (n := 17) (j := 12) (by decide) (by decide)
          rw [hx]
          exact g_iret (by decide +kernel) ⟨congrArg (fun z => some (vI z)) (h3), σ, f, rfl, h.le (by omega), FrM.rf⟩
        · exact absurd zc24 (by decide)
      · exact absurd zc6 (by decide)
    | 13, hj =>
      have ej : nI 13 = (13 : Int32) := rfl
      rw [ej]
      refine g_blk (pc' := 3) (loc' := [some (vR (8, 0, 0)), some (vI (13 : Int32))]) (st' := [vI (3 : Int32), vI (0 : Int32), vI (13 : Int32)]) (σ' := sa σ f) fl5_ok [(0, .iload_n 1), (1, .iconst 0), (2, .iconst 3)] (by decide +kernel) rfl rfl ?_
      refine g_callSp [vI (13 : Int32), vI (0 : Int32), vI (3 : Int32)] [] sl_RX5_29 mi_X5_in (c_X5_in l (13 : Int32) (0 : Int32) (3 : Int32)) rfl ⟨Nat.le_of_ble_eq_true rfl, Nat.le_of_ble_eq_true rfl⟩ rfl (Nat.le_of_ble_eq_true rfl) (by decide +kernel) ?_
      refine g_if_eq (off := 10) (tgt := 16) (by decide +kernel) (by decide) (fun zc6 => ?_) (fun zc6 => ?_)
      · refine g_blk (pc' := 21) (loc' := [some (vR (8, 0, 0)), some (vI (13 : Int32))]) (st' := [vI (16 : Int32), vI (13 : Int32), vI (13 : Int32)]) (σ' := sa σ f) fl5_ok [(16, .iload_n 1), (17, .bipush 13), (19, .bipush 16)] (by decide +kernel) rfl rfl ?_
        refine g_callSp [vI (13 : Int32), vI (13 : Int32), vI (16 : Int32)] [] sl_RX5_29 mi_X5_in (c_X5_in l (13 : Int32) (13 : Int32) (16 : Int32)) rfl ⟨Nat.le_of_ble_eq_true rfl, Nat.le_of_ble_eq_true rfl⟩ rfl (Nat.le_of_ble_eq_true rfl) (by decide +kernel) ?_
        refine g_if_eq (off := 12) (tgt := 36) (by decide +kernel) (by decide) (fun zc24 => ?_) (fun zc24 => ?_)
        · exact absurd zc24 (by decide)
        · refine g_blk (pc' := 32) (loc' := [some (vR (8, 0, 0)), some (vI (13 : Int32))]) (st' := [vI (0 : Int32), vR (8, 0, 0)]) (σ' := sa σ f) fl5_ok [(27, .aload_n 0), (28, .iload_n 1), (29, .bipush 13), (31, .isub)] (by decide +kernel) rfl rfl ?_
          refine g_callVp (8, 0, 0) [vI (0 : Int32)] [] vl_RX5_58 mi_X5_setting (c_X5_setting l (c := 0) rfl (by omega)) rfl rfl rfl rfl ⟨Nat.le_of_ble_eq_true rfl, Nat.le_of_ble_eq_true rfl⟩ rfl (Nat.le_of_ble_eq_true rfl) (by decide +kernel) ?_
          have hx : xcount S Hs P 13 = cl S 4 0 0 := by unfold xcount; exact sw_in (n := 17) (j := 13) (by decide) (by decide)
          rw [hx]
          exact g_iret (by decide +kernel) ⟨congrArg (fun z => some (vI z)) ((set_cl hE (j := 0) (by decide)).symm), σ, f, rfl, h.le (by omega), FrM.rf⟩
      · exact absurd zc6 (by decide)
    | 14, hj =>
      have ej : nI 14 = (14 : Int32) := rfl
      rw [ej]
      refine g_blk (pc' := 3) (loc' := [some (vR (8, 0, 0)), some (vI (14 : Int32))]) (st' := [vI (3 : Int32), vI (0 : Int32), vI (14 : Int32)]) (σ' := sa σ f) fl5_ok [(0, .iload_n 1), (1, .iconst 0), (2, .iconst 3)] (by decide +kernel) rfl rfl ?_
      refine g_callSp [vI (14 : Int32), vI (0 : Int32), vI (3 : Int32)] [] sl_RX5_29 mi_X5_in (c_X5_in l (14 : Int32) (0 : Int32) (3 : Int32)) rfl ⟨Nat.le_of_ble_eq_true rfl, Nat.le_of_ble_eq_true rfl⟩ rfl (Nat.le_of_ble_eq_true rfl) (by decide +kernel) ?_
      refine g_if_eq (off := 10) (tgt := 16) (by decide +kernel) (by decide) (fun zc6 => ?_) (fun zc6 => ?_)
      · refine g_blk (pc' := 21) (loc' := [some (vR (8, 0, 0)), some (vI (14 : Int32))]) (st' := [vI (16 : Int32), vI (13 : Int32), vI (14 : Int32)]) (σ' := sa σ f) fl5_ok [(16, .iload_n 1), (17, .bipush 13), (19, .bipush 16)] (by decide +kernel) rfl rfl ?_
        refine g_callSp [vI (14 : Int32), vI (13 : Int32), vI (16 : Int32)] [] sl_RX5_29 mi_X5_in (c_X5_in l (14 : Int32) (13 : Int32) (16 : Int32)) rfl ⟨Nat.le_of_ble_eq_true rfl, Nat.le_of_ble_eq_true rfl⟩ rfl (Nat.le_of_ble_eq_true rfl) (by decide +kernel) ?_
        refine g_if_eq (off := 12) (tgt := 36) (by decide +kernel) (by decide) (fun zc24 => ?_) (fun zc24 => ?_)
        · exact absurd zc24 (by decide)
        · refine g_blk (pc' := 32) (loc' := [some (vR (8, 0, 0)), some (vI (14 : Int32))]) (st' := [vI (1 : Int32), vR (8, 0, 0)]) (σ' := sa σ f) fl5_ok [(27, .aload_n 0), (28, .iload_n 1), (29, .bipush 13), (31, .isub)] (by decide +kernel) rfl rfl ?_
          refine g_callVp (8, 0, 0) [vI (1 : Int32)] [] vl_RX5_58 mi_X5_setting (c_X5_setting l (c := 1) rfl (by omega)) rfl rfl rfl rfl ⟨Nat.le_of_ble_eq_true rfl, Nat.le_of_ble_eq_true rfl⟩ rfl (Nat.le_of_ble_eq_true rfl) (by decide +kernel) ?_
          have hx : xcount S Hs P 14 = cl S 4 0 1 := by unfold xcount; exact sw_in (n := 17) (j := 14) (by decide) (by decide)
          rw [hx]
          exact g_iret (by decide +kernel) ⟨congrArg (fun z => some (vI z)) ((set_cl hE (j := 1) (by decide)).symm), σ, f, rfl, h.le (by omega), FrM.rf⟩
      · exact absurd zc6 (by decide)
    | 15, hj =>
      have ej : nI 15 = (15 : Int32) := rfl
      rw [ej]
      refine g_blk (pc' := 3) (loc' := [some (vR (8, 0, 0)), some (vI (15 : Int32))]) (st' := [vI (3 : Int32), vI (0 : Int32), vI (15 : Int32)]) (σ' := sa σ f) fl5_ok [(0, .iload_n 1), (1, .iconst 0), (2, .iconst 3)] (by decide +kernel) rfl rfl ?_
      refine g_callSp [vI (15 : Int32), vI (0 : Int32), vI (3 : Int32)] [] sl_RX5_29 mi_X5_in (c_X5_in l (15 : Int32) (0 : Int32) (3 : Int32)) rfl ⟨Nat.le_of_ble_eq_true rfl, Nat.le_of_ble_eq_true rfl⟩ rfl (Nat.le_of_ble_eq_true rfl) (by decide +kernel) ?_
      refine g_if_eq (off := 10) (tgt := 16) (by decide +kernel) (by decide) (fun zc6 => ?_) (fun zc6 => ?_)
      · refine g_blk (pc' := 21) (loc' := [some (vR (8, 0, 0)), some (vI (15 : Int32))]) (st' := [vI (16 : Int32), vI (13 : Int32), vI (15 : Int32)]) (σ' := sa σ f) fl5_ok [(16, .iload_n 1), (17, .bipush 13), (19, .bipush 16)] (by decide +kernel) rfl rfl ?_
        refine g_callSp [vI (15 : Int32), vI (13 : Int32), vI (16 : Int32)] [] sl_RX5_29 mi_X5_in (c_X5_in l (15 : Int32) (13 : Int32) (16 : Int32)) rfl ⟨Nat.le_of_ble_eq_true rfl, Nat.le_of_ble_eq_true rfl⟩ rfl (Nat.le_of_ble_eq_true rfl) (by decide +kernel) ?_
        refine g_if_eq (off := 12) (tgt := 36) (by decide +kernel) (by decide) (fun zc24 => ?_) (fun zc24 => ?_)
        · exact absurd zc24 (by decide)
        · refine g_blk (pc' := 32) (loc' := [some (vR (8, 0, 0)), some (vI (15 : Int32))]) (st' := [vI (2 : Int32), vR (8, 0, 0)]) (σ' := sa σ f) fl5_ok [(27, .aload_n 0), (28, .iload_n 1), (29, .bipush 13), (31, .isub)] (by decide +kernel) rfl rfl ?_
          refine g_callVp (8, 0, 0) [vI (2 : Int32)] [] vl_RX5_58 mi_X5_setting (c_X5_setting l (c := 2) rfl (by omega)) rfl rfl rfl rfl ⟨Nat.le_of_ble_eq_true rfl, Nat.le_of_ble_eq_true rfl⟩ rfl (Nat.le_of_ble_eq_true rfl) (by decide +kernel) ?_
          have hx : xcount S Hs P 15 = cl S 4 0 2 := by unfold xcount; exact sw_in (n := 17) (j := 15) (by decide) (by decide)
          rw [hx]
          exact g_iret (by decide +kernel) ⟨congrArg (fun z => some (vI z)) ((set_cl hE (j := 2) (by decide)).symm), σ, f, rfl, h.le (by omega), FrM.rf⟩
      · exact absurd zc6 (by decide)
    | 16, hj =>
      have ej : nI 16 = (16 : Int32) := rfl
      rw [ej]
      refine g_blk (pc' := 3) (loc' := [some (vR (8, 0, 0)), some (vI (16 : Int32))]) (st' := [vI (3 : Int32), vI (0 : Int32), vI (16 : Int32)]) (σ' := sa σ f) fl5_ok [(0, .iload_n 1), (1, .iconst 0), (2, .iconst 3)] (by decide +kernel) rfl rfl ?_
      refine g_callSp [vI (16 : Int32), vI (0 : Int32), vI (3 : Int32)] [] sl_RX5_29 mi_X5_in (c_X5_in l (16 : Int32) (0 : Int32) (3 : Int32)) rfl ⟨Nat.le_of_ble_eq_true rfl, Nat.le_of_ble_eq_true rfl⟩ rfl (Nat.le_of_ble_eq_true rfl) (by decide +kernel) ?_
      refine g_if_eq (off := 10) (tgt := 16) (by decide +kernel) (by decide) (fun zc6 => ?_) (fun zc6 => ?_)
      · refine g_blk (pc' := 21) (loc' := [some (vR (8, 0, 0)), some (vI (16 : Int32))]) (st' := [vI (16 : Int32), vI (13 : Int32), vI (16 : Int32)]) (σ' := sa σ f) fl5_ok [(16, .iload_n 1), (17, .bipush 13), (19, .bipush 16)] (by decide +kernel) rfl rfl ?_
        refine g_callSp [vI (16 : Int32), vI (13 : Int32), vI (16 : Int32)] [] sl_RX5_29 mi_X5_in (c_X5_in l (16 : Int32) (13 : Int32) (16 : Int32)) rfl ⟨Nat.le_of_ble_eq_true rfl, Nat.le_of_ble_eq_true rfl⟩ rfl (Nat.le_of_ble_eq_true rfl) (by decide +kernel) ?_
        refine g_if_eq (off := 12) (tgt := 36) (by decide +kernel) (by decide) (fun zc24 => ?_) (fun zc24 => ?_)
        · exact absurd zc24 (by decide)
        · refine g_blk (pc' := 32) (loc' := [some (vR (8, 0, 0)), some (vI (16 : Int32))]) (st' := [vI (3 : Int32), vR (8, 0, 0)]) (σ' := sa σ f) fl5_ok [(27, .aload_n 0), (28, .iload_n 1), (29, .bipush 13), (31, .isub)] (by decide +kernel) rfl rfl ?_
          refine g_callVp (8, 0, 0) [vI (3 : Int32)] [] vl_RX5_58 mi_X5_setting (c_X5_setting l (c := 3) rfl (by omega)) rfl rfl rfl rfl ⟨Nat.le_of_ble_eq_true rfl, Nat.le_of_ble_eq_true rfl⟩ rfl (Nat.le_of_ble_eq_true rfl) (by decide +kernel) ?_
          have hx : xcount S Hs P 16 = cl S 4 0 3 := by unfold xcount; exact sw_in (n := 17) (j := 16) (by decide) (by decide)
          rw [hx]
          exact g_iret (by decide +kernel) ⟨congrArg (fun z => some (vI z)) ((set_cl hE (j := 3) (by decide)).symm), σ, f, rfl, h.le (by omega), FrM.rf⟩
      · exact absurd zc6 (by decide)
    | j + 17, hj => exact absurd hj (by omega)
theorem Mq_.sa {S : HA} {Hs : List HA} {P : PV} {n : Nat} {f : Nat → Int32} {σ : Sg} (h : Mq_ S Hs P n f σ) : Mq_ S Hs P n f (sa σ f) := h.fr (by rw [sa_ne σ f (by simp)]) (by rw [sa_ne σ f (by simp)]) (sa_ne σ f (by simp)) (sa_ne σ f (by simp))
theorem ptx_0 {τ : Sg} : PTX P0 τ := ⟨by decide, fun _ _ => rfl, fun i hi => absurd hi (Nat.not_lt_zero i)⟩
theorem mq_wipe {S : HA} {Hs : List HA} {P : PV} {n : Nat} {f : Nat → Int32} {σ σ1 : Sg} (h : Mq_ S Hs P n f σ) (h0 : σ.1 (9, 0, 0) = f) (e : (upd2 σ.1 (8, 0, 0) 5 0, σ.2) = σ1) : ∃ τ f', σ1 = sa τ f' ∧ Mq_ S Hs P0 n f' τ ∧ FrM σ τ := by
  obtain ⟨p, q, r⟩ := f8 e
  have e1 : σ1.1 (9, 0, 0) = f := (r.1 _ (by simp)).trans h0
  have s := sa_self σ1
  rw [e1] at s
  refine ⟨σ1, f, s.symm, ?_, by rw [← e]; exact FrM.up (by decide)⟩
  obtain ⟨a, b, ⟨c1, c2⟩, d, -, -⟩ := h
  refine ⟨a, b, ⟨(q 3 (by decide)).trans c1, c2⟩, fun i T hT => ?_, p, ptx_0⟩
  rw [r.1 _ (by simp)]
  exact d i T hT
theorem m_fault (l : Launch) {σ : Sg} {f : Nat → Int32} {S : HA} {Hs : List HA} {P : PV} {n : Nat} (h : Mq_ S Hs P n f σ) : Con l 3 yX5_fault cX5_fault 1 (some .int) [vR (8, 0, 0)] (sa σ f) (Mp_ (xfault P, ((S, (Hs, P)) : XS)) n σ) := by
  have h' := h.sa
  refine con_mono (c_X5_fault l (P := P) h'.2.2.2.2.1 h'.2.2.2.2.2) (fun o σ' hp => ⟨hp.1, σ', f, ?_, (h'.frR hp.2.1).le (by omega), FrM.sa.tr hp.2.1.m⟩)
  have e1 : σ'.1 (9, 0, 0) = f := (hp.2.1.1 _ (by simp) (by simp)).trans (sa_at σ f)
  have s := sa_self σ'
  rw [e1] at s
  exact s.symm
set_option maxHeartbeats 2000000 in
theorem m_wipe (l : Launch) {σ : Sg} {f : Nat → Int32} {S : HA} {Hs : List HA} {P : PV} {n : Nat} (h : Mq_ S Hs P n f σ) (hn : n ≤ 1000000)  : Con l 0 yX5_wipe cX5_wipe 2 (some .int) [vR (8, 0, 0)] (sa σ f) (Mp_ (xwipe S Hs P) n σ) := by
  obtain ⟨hE, hV, ⟨h3, h6⟩, hA, h5, hP⟩ := id h
  obtain ⟨hb0, hb1, hb2, hb3⟩ := hE.1
  have hnr := hE.2.2.1.1
  have hna := hE.2.2.1.2.1
  have hnt := hE.2.2.1.2.2.1
  have hns := hE.2.2.1.2.2.2
  refine con_of pn_X5_wipe (Nat.le_of_ble_eq_true rfl) (fun hPK hok => ?_)
  show G l (Rm 0) RX5 cX5_wipe 2 (some .int) _ 0 [some (vR (8, 0, 0)), none] [] (sa σ f)
  refine g_blk (pc' := 11) (loc' := [some (vR (8, 0, 0)), some (vI (σ.1 (8, 0, 0) 5))]) (st' := [vI (σ.1 (8, 0, 0) 5)]) (σ' := (upd2 (sa σ f).1 (8, 0, 0) 5 (0 : Int32), (sa σ f).2)) fl5_ok [(0, .aload_n 0), (1, .getfield 142), (4, .istore_n 1), (5, .aload_n 0), (6, .iconst 0), (7, .putfield 142), (10, .iload_n 1)] (by decide +kernel) rfl rfl ?_
  generalize hσ1 : ((upd2 (sa σ f).1 (8, 0, 0) 5 (0 : Int32), (sa σ f).2) : Sg) = σ1
  obtain ⟨τ, f1, e1, e2, e3⟩ := mq_wipe h.sa (sa_at σ f) hσ1
  exact g_iret (by decide +kernel) ⟨congrArg (fun z => some (vI z)) h5, τ, f1, e1, e2.le (by omega), FrM.sa.tr e3⟩
