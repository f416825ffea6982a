/-! THE MODEL: fault (laid by wip/whole/mk25.py) -/
theorem tk_up {P : PV} {s : Nat} {e : Int32} {T : TV} : s ≤ (tkS P s e T).1.1 := by
  have l0 := eon_le P s
  have l2 := eon_le P (eonS P s + 1)
  rw [tkS]
  split
  · exact Nat.le_refl _
  · split
    · exact l0.1
    · split
      · show s ≤ eonS P s + 1; omega
      · show s ≤ eonS P (eonS P s + 1); omega
theorem ts_ini {P : PV} {σ σ1 σ2 σ3 σ4 : Sg} (e1 : (upd2 σ.1 (8, 0, 0) 6 (nI 0), σ.2) = σ1) (e2 : (upd2 σ1.1 (8, 0, 0) 7 0, σ1.2) = σ2) (e3 : (upd2 σ2.1 (8, 0, 0) 8 (-6), σ2.2) = σ3) (e4 : (upd2 σ3.1 (8, 0, 0) 10 (nI 0), σ3.2) = σ4) (h5 : σ.1 (8, 0, 0) 5 = nI P.1) (hP : PTX P σ) : TS P σ σ4 0 0 (-6) T0 := by
  obtain ⟨p1, q1, r1⟩ := f8 e1
  obtain ⟨p2, q2, r2⟩ := f8 e2
  obtain ⟨p3, q3, r3⟩ := f8 e3
  obtain ⟨p4, q4, r4⟩ := f8 e4
  have r := ((r1.tr r2).tr r3).tr r4
  refine ⟨by rw [q4 6 (by decide), q3 6 (by decide), q2 6 (by decide), p1], by rw [q4 7 (by decide), q3 7 (by decide), p2], by rw [q4 8 (by decide), p3], p4, fun r hr => absurd hr (Nat.not_lt_zero r), ptx_fr (r.1 _ (by simp)) hP, by rw [q4 5 (by decide), q3 5 (by decide), q2 5 (by decide), q1 5 (by decide), h5], fun p h1 h2 => r.1 p h1, r.2, fun k h6 h7 h8 h10 => by rw [q4 k h10, q3 k h8, q2 k h7, q1 k h6]⟩

theorem rd_fuel {P : PV} (h60 : P.1 ≤ 60) (hz : ∀ i, P.1 ≤ i → P.2 i = 0) : rdF P 61 0 T0 = rdF P 62 0 T0 := by
  have hh : ∀ (k s : Nat) (T : TV), 61 ≤ k + s → rdF P k s T = rdF P (k + 1) s T := by
    intro k
    induction k with
    | zero =>
      intro s T hk
      have h0 : eonS P s = s := by
        rcases Nat.decEq (eonS P s) s with q | q
        · have := (eon_top hz q).2; omega
        · exact q
      show (nI s, T) = _
      rw [rdF, if_neg (not_not_intro h0)]
    | succ k ih =>
      intro s T hk
      have l0 := eon_le P s
      have l2 := eon_le P (eonS P s + 1)
      by_cases h0 : eonS P s = s
      · rw [rdF, rdF, if_neg (not_not_intro h0), if_neg (not_not_intro h0)]
      · rw [rdF, rdF.eq_2 (k := k + 1), ih (eonS P s + 1) _ (by omega), ih (eonS P (eonS P s + 1) + 1) _ (by omega)]
  exact hh 61 0 T0 (by omega)
set_option maxHeartbeats 2000000 in
theorem lp_X5_faultE (l : Launch) {σ0 τ : Sg} {P : PV} {Q : (Nat × Int32) × (Int32 × TV)} (hT : TS P σ0 τ Q.1.1 Q.1.2 Q.2.1 Q.2.2) (hs : Q.1.1 < 2 ^ 20) : G l (Rm 3) RX5 cX5_fault 1 (some .int) (fun o σ' => o = some (vI (finF P Q)) ∧ TS P σ0 σ' Q.1.1 Q.1.2 Q.2.1 Q.2.2) 58 [some (vR (8, 0, 0))] [] τ := by
  have h60 := hT.2.2.2.2.2.1.1
  refine g_blk (pc' := 62) (loc' := [some (vR (8, 0, 0))]) (st' := [vI (τ.1 (8, 0, 0) 8)]) (σ' := τ) fl5_ok [(58, .aload_n 0), (59, .getfield 169)] (by decide +kernel) rfl rfl ?_
  refine g_if_lt (off := 10) (tgt := 72) (by decide +kernel) (by decide) (fun zc62 => ?_) (fun zc62 => ?_)
  · rw [hT.2.2.1] at zc62
    refine g_blk (pc' := 76) (loc' := [some (vR (8, 0, 0))]) (st' := [vI (τ.1 (8, 0, 0) 7)]) (σ' := τ) fl5_ok [(72, .aload_n 0), (73, .getfield 159)] (by decide +kernel) rfl rfl ?_
    refine g_if_ne (off := 14) (tgt := 90) (by decide +kernel) (by decide) (fun zc76 => ?_) (fun zc76 => ?_)
    · rw [hT.2.1] at zc76
      refine g_blk (pc' := 99) (loc' := [some (vR (8, 0, 0))]) (st' := [vI (τ.1 (8, 0, 0) 6)]) (σ' := τ) fl5_ok [(90, .aload_n 0), (91, .getfield 156), (94, .goto 5)] (by decide +kernel) rfl rfl ?_
      exact g_iret (by decide +kernel) ⟨by rw [finF, if_pos zc62, if_pos zc76, hT.1], hT⟩
    · rw [hT.2.1] at zc76
      refine g_blk (pc' := 87) (loc' := [some (vR (8, 0, 0))]) (st' := [vI (τ.1 (8, 0, 0) 5), vI (τ.1 (8, 0, 0) 6)]) (σ' := τ) fl5_ok [(79, .aload_n 0), (80, .getfield 156), (83, .aload_n 0), (84, .getfield 142)] (by decide +kernel) rfl rfl ?_
      refine g_icmp_ge (off := 10) (tgt := 97) (by decide +kernel) (by decide) (fun zc87 => ?_) (fun zc87 => ?_)
      · rw [hT.1, hT.2.2.2.2.2.2.1, nI_leI (by omega) (by omega)] at zc87
        refine g_blk (pc' := 99) (loc' := [some (vR (8, 0, 0))]) (st' := [vI (-6 : Int32)]) (σ' := τ) fl5_ok [(97, .bipush (-6))] (by decide +kernel) rfl rfl ?_
        exact g_iret (by decide +kernel) ⟨by rw [finF, if_pos zc62, if_neg (not_not_intro zc76), if_pos zc87], hT⟩
      · rw [hT.1, hT.2.2.2.2.2.2.1, nI_leI (by omega) (by omega)] at zc87
        refine g_blk (pc' := 99) (loc' := [some (vR (8, 0, 0))]) (st' := [vI (τ.1 (8, 0, 0) 6)]) (σ' := τ) fl5_ok [(90, .aload_n 0), (91, .getfield 156), (94, .goto 5)] (by decide +kernel) rfl rfl ?_
        exact g_iret (by decide +kernel) ⟨by rw [finF, if_pos zc62, if_neg (not_not_intro zc76), if_neg zc87, hT.1], hT⟩
  · rw [hT.2.2.1] at zc62
    refine g_blk (pc' := 99) (loc' := [some (vR (8, 0, 0))]) (st' := [vI (τ.1 (8, 0, 0) 8)]) (σ' := τ) fl5_ok [(65, .aload_n 0), (66, .getfield 169), (69, .goto 30)] (by decide +kernel) rfl rfl ?_
    exact g_iret (by decide +kernel) ⟨by rw [finF, if_neg zc62, hT.2.2.1], hT⟩
set_option maxHeartbeats 2000000 in
theorem lp_X5_fault (l : Launch) {σ0 : Sg} {P : PV} {Q : (Nat × Int32) × (Int32 × TV)} : ∀ (k s : Nat) (w e : Int32) (T : TV) (τ : Sg), 61 ≤ k + s → s ≤ 66 → 2 * T.1 ≤ s + 1 → TS P σ0 τ s w e T → ltM P k ((s, w), (e, T)) = Q → G l (Rm 3) RX5 cX5_fault 1 (some .int) (fun o σ' => o = some (vI (finF P Q)) ∧ TS P σ0 σ' Q.1.1 Q.1.2 Q.2.1 Q.2.2) 25 [some (vR (8, 0, 0))] [] (τ) := by
  intro k
  induction k with
  | zero =>
    intro s w e T τ hk h66 h2 hT hd
    have hT := hT
    have hz := hT.2.2.2.2.2.1.2.1
    have h60 := hT.2.2.2.2.2.1.1
    refine g_blk (pc' := 29) (loc' := [some (vR (8, 0, 0))]) (st' := [vI (τ.1 (8, 0, 0) 7)]) (σ' := τ) fl5_ok [(25, .aload_n 0), (26, .getfield 159)] (by decide +kernel) rfl rfl ?_
    refine g_if_ne (off := 29) (tgt := 58) (by decide +kernel) (by decide) (fun zc29 => ?_) (fun zc29 => ?_)
    · rw [hT.2.1] at zc29
      have hd : ((s, w), (e, T)) = Q := hd
      subst hd
      exact lp_X5_faultE l hT (show s < 2 ^ 20 by omega)
    · rw [hT.2.1] at zc29
      subst zc29
      refine g_blk (pc' := 33) (loc' := [some (vR (8, 0, 0))]) (st' := [vR (8, 0, 0)]) (σ' := τ) fl5_ok [(32, .aload_n 0)] (by decide +kernel) rfl rfl ?_
      refine g_callVp (8, 0, 0) [] [] vl_RX5_163 mi_X5_next (c_X5_next l (P := P) (s := s) hT.1 hT.2.2.2.2.2.2.1 hT.2.2.2.2.2.1 (by omega)) rfl rfl rfl rfl ⟨Nat.le_of_ble_eq_true rfl, Nat.le_of_ble_eq_true rfl⟩ rfl (Nat.le_of_ble_eq_true rfl) (by decide +kernel) ?_
      refine g_blk (pc' := 38) (loc' := [some (vR (8, 0, 0))]) (st' := [vI (44 : Int32), vI (P.2 s)]) (σ' := τ) fl5_ok [(36, .bipush 44)] (by decide +kernel) rfl rfl ?_
      refine g_icmp_ne (off := 20) (tgt := 58) (by decide +kernel) (by decide) (fun zc38 => ?_) (fun zc38 => ?_)
      · have hd : ((s, 0), (e, T)) = Q := hd
        subst hd
        exact lp_X5_faultE l hT (show s < 2 ^ 20 by omega)
      · exact absurd zc38 (by rw [hT.2.2.2.2.2.1.2.1 s (by omega)]; decide)
  | succ k ih =>
    intro s w e T τ hk h66 h2 hT hd
    have hT := hT
    have hz := hT.2.2.2.2.2.1.2.1
    have h60 := hT.2.2.2.2.2.1.1
    refine g_blk (pc' := 29) (loc' := [some (vR (8, 0, 0))]) (st' := [vI (τ.1 (8, 0, 0) 7)]) (σ' := τ) fl5_ok [(25, .aload_n 0), (26, .getfield 159)] (by decide +kernel) rfl rfl ?_
    refine g_if_ne (off := 29) (tgt := 58) (by decide +kernel) (by decide) (fun zc29 => ?_) (fun zc29 => ?_)
    · rw [hT.2.1] at zc29
      rw [ltM, if_pos zc29] at hd
      subst hd
      exact lp_X5_faultE l hT (show s < 2 ^ 20 by omega)
    · rw [hT.2.1] at zc29
      subst zc29
      refine g_blk (pc' := 33) (loc' := [some (vR (8, 0, 0))]) (st' := [vR (8, 0, 0)]) (σ' := τ) fl5_ok [(32, .aload_n 0)] (by decide +kernel) rfl rfl ?_
      refine g_callVp (8, 0, 0) [] [] vl_RX5_163 mi_X5_next (c_X5_next l (P := P) (s := s) hT.1 hT.2.2.2.2.2.2.1 hT.2.2.2.2.2.1 (by omega)) rfl rfl rfl rfl ⟨Nat.le_of_ble_eq_true rfl, Nat.le_of_ble_eq_true rfl⟩ rfl (Nat.le_of_ble_eq_true rfl) (by decide +kernel) ?_
      refine g_blk (pc' := 38) (loc' := [some (vR (8, 0, 0))]) (st' := [vI (44 : Int32), vI (P.2 s)]) (σ' := τ) fl5_ok [(36, .bipush 44)] (by decide +kernel) rfl rfl ?_
      refine g_icmp_ne (off := 20) (tgt := 58) (by decide +kernel) (by decide) (fun zc38 => ?_) (fun zc38 => ?_)
      · rw [ltM, if_neg (not_not_intro rfl), if_pos zc38] at hd
        subst hd
        exact lp_X5_faultE l hT (show s < 2 ^ 20 by omega)
      · refine g_blk (pc' := 51) (loc' := [some (vR (8, 0, 0))]) (st' := []) (σ' := (upd2 τ.1 (8, 0, 0) 6 ((τ.1 (8, 0, 0) 6) + (1 : Int32)), τ.2)) fl5_ok [(41, .aload_n 0), (42, .dup), (43, .getfield 156), (46, .iconst 1), (47, .iadd), (48, .putfield 156)] (by decide +kernel) rfl rfl ?_
        generalize hσ1 : ((upd2 τ.1 (8, 0, 0) 6 ((τ.1 (8, 0, 0) 6) + (1 : Int32)), τ.2) : Sg) = σ1
        rw [hT.1, nI_1] at hσ1
        have hTσ1 := ts_6 hT hσ1
        refine g_blk (pc' := 52) (loc' := [some (vR (8, 0, 0))]) (st' := [vR (8, 0, 0)]) (σ' := σ1) fl5_ok [(51, .aload_n 0)] (by decide +kernel) rfl rfl ?_
        refine g_callV (8, 0, 0) [] [] vl_RX5_175 mi_X5_takePart (c_X5_takePart l (P := P) (σ0 := σ0) (s := (s + 1)) (e := e) (T := T) hTσ1 (by omega) (by rcases Nat.decEq (eonS P (s + 1)) (s + 1) with q | q; exact Or.inr (by have := (eon_top hz q).2; omega); exact Or.inl q)) rfl rfl rfl rfl ⟨Nat.le_of_ble_eq_true rfl, Nat.le_of_ble_eq_true rfl⟩ rfl (Nat.le_of_ble_eq_true rfl) (by decide +kernel) (fun o τ2 hP => ?_)
        obtain ⟨rfl, hqτ2⟩ := hP
        refine g_blk (pc' := 25) (loc' := [some (vR (8, 0, 0))]) (st' := []) (σ' := τ2) fl5_ok [(55, .goto (-30))] (by decide +kernel) rfl rfl ?_
        rw [ltM, if_neg (not_not_intro rfl), if_neg (not_not_intro zc38)] at hd
        have hsP : s < P.1 := by
          rcases Nat.lt_or_ge s P.1 with q | q
          · exact q
          · exact absurd zc38 (by rw [hz s q]; decide)
        have ti := tk_inv (P := P) (e := e) hz h60 (show 2 * T.1 ≤ s + 1 by omega)
        have tu := tk_up (P := P) (s := s + 1) (e := e) (T := T)
        exact ih _ _ _ _ τ2 (by omega) (by omega) ti.1 hqτ2 hd
set_option maxHeartbeats 2000000 in
theorem c_X5_fault (l : Launch) {σ : Sg} {P : PV} (h5 : σ.1 (8, 0, 0) 5 = nI P.1) (hP : PTX P σ) : Con l 3 yX5_fault cX5_fault 1 (some .int) [vR (8, 0, 0)] (σ) (fun o σ' => o = some (vI (rdF P 61 0 T0).1) ∧ FrR σ σ' ∧ ((rdF P 61 0 T0).1 = -6 → RR (rdF P 61 0 T0).2 σ' ∧ σ'.1 (8, 0, 0) 10 = nI (rdF P 61 0 T0).2.1)) := by
  refine con_of pn_X5_fault (Nat.le_of_ble_eq_true rfl) (fun hPK hok => ?_)
  show G l (Rm 3) RX5 cX5_fault 1 (some .int) _ 0 [some (vR (8, 0, 0))] [] (σ)
  refine g_blk (pc' := 5) (loc' := [some (vR (8, 0, 0))]) (st' := []) (σ' := (upd2 σ.1 (8, 0, 0) 6 (0 : Int32), σ.2)) fl5_ok [(0, .aload_n 0), (1, .iconst 0), (2, .putfield 156)] (by decide +kernel) rfl rfl ?_
  generalize hσ1 : ((upd2 σ.1 (8, 0, 0) 6 (0 : Int32), σ.2) : Sg) = σ1
  refine g_blk (pc' := 10) (loc' := [some (vR (8, 0, 0))]) (st' := []) (σ' := (upd2 σ1.1 (8, 0, 0) 7 (0 : Int32), σ1.2)) fl5_ok [(5, .aload_n 0), (6, .iconst 0), (7, .putfield 159)] (by decide +kernel) rfl rfl ?_
  generalize hσ2 : ((upd2 σ1.1 (8, 0, 0) 7 (0 : Int32), σ1.2) : Sg) = σ2
  refine g_blk (pc' := 16) (loc' := [some (vR (8, 0, 0))]) (st' := []) (σ' := (upd2 σ2.1 (8, 0, 0) 8 (-6 : Int32), σ2.2)) fl5_ok [(10, .aload_n 0), (11, .bipush (-6)), (13, .putfield 169)] (by decide +kernel) rfl rfl ?_
  generalize hσ3 : ((upd2 σ2.1 (8, 0, 0) 8 (-6 : Int32), σ2.2) : Sg) = σ3
  refine g_blk (pc' := 21) (loc' := [some (vR (8, 0, 0))]) (st' := []) (σ' := (upd2 σ3.1 (8, 0, 0) 10 (0 : Int32), σ3.2)) fl5_ok [(16, .aload_n 0), (17, .iconst 0), (18, .putfield 172)] (by decide +kernel) rfl rfl ?_
  generalize hσ4 : ((upd2 σ3.1 (8, 0, 0) 10 (0 : Int32), σ3.2) : Sg) = σ4
  have hTσ4 := ts_ini hσ1 hσ2 hσ3 hσ4 h5 hP
  refine g_blk (pc' := 22) (loc' := [some (vR (8, 0, 0))]) (st' := [vR (8, 0, 0)]) (σ' := σ4) fl5_ok [(21, .aload_n 0)] (by decide +kernel) rfl rfl ?_
  refine g_callV (8, 0, 0) [] [] vl_RX5_175 mi_X5_takePart (c_X5_takePart l (P := P) (σ0 := σ) (s := 0) (e := (-6)) (T := T0) hTσ4 (by omega) (Or.inr (by decide))) rfl rfl rfl rfl ⟨Nat.le_of_ble_eq_true rfl, Nat.le_of_ble_eq_true rfl⟩ rfl (Nat.le_of_ble_eq_true rfl) (by decide +kernel) (fun o τ5 hP => ?_)
  obtain ⟨rfl, hqτ5⟩ := hP
  have hz := hP.2.1
  have h60 := hP.1
  have ti := tk_inv (P := P) (s := 0) (e := -6) (T := T0) hz h60 (Nat.le_refl _)
  refine g_mono (lp_X5_fault l (σ0 := σ) (Q := ltM P 61 (tkS P 0 (-6) T0)) 61 _ _ _ _ τ5 (by omega) (by omega) ti.1 hqτ5 rfl) (fun o σ' hp => ?_)
  have ho := lt_rd h60 hz 61 0 T0 (by omega)
  rw [← rd_fuel h60 hz] at ho
  obtain ⟨rfl, hTq⟩ := hp
  exact ⟨by rw [ho.1], hTq.2.2.2.2.2.2.2, fun h => ⟨by rw [← ho.2 h]; exact hTq.2.2.2.2.1, by rw [← ho.2 h]; exact hTq.2.2.2.1⟩⟩
