/-! refused() of the law -/
def FAR (x : Int32) : Prop := x.toInt < -6 ∨ 1000 < x.toInt
theorem far_in {x a b : Int32} (hf : FAR x) (ha : -6 ≤ a.toInt) (hb : b.toInt ≤ 1000) : isInS x a b = 0 := by
  rw [isInS]
  rcases hf with h | h
  · rw [if_pos (Int32.lt_iff_toInt_lt.mpr (by omega))]
  · by_cases q : x < a
    · rw [if_pos q]
    · rw [if_neg q, if_pos (Int32.lt_iff_toInt_lt.mpr (by omega))]
theorem far_sw {x : Int32} {n : Nat} {f : Nat → Int32} {d : Int32} (hf : FAR x) (hn : n ≤ 1000) (h31 : n < 2 ^ 31) : sw n x f d = d := by
  rcases hf with h | h
  · exact sw_lo (Int32.lt_iff_toInt_lt.mpr (by show x.toInt < 0; omega))
  · exact sw_hi (Int32.le_iff_toInt_le.mpr (by rw [nI_toInt h31]; omega))
theorem has_0 (x : Int32) : hasT x 0 = 0 := if_pos (Or.inr (Nat.zero_le _))
theorem far_a {i : Nat} (hi : i < 1000000) : FAR ((-7 : Int32) - nI i) := by
  refine Or.inl ?_
  rw [Int32.toInt_sub, nI_toInt (by omega), show (-7 : Int32).toInt = -7 from rfl]
  unfold Int.bmod
  simp only
  split <;> omega
theorem far_b {v r : Int32} (h : 0 ≤ v) (e : remS v 1000000 = r) : FAR (r + 1001) := by
  obtain ⟨j, hj, rfl⟩ := nI_of (Int32.not_lt.mpr h)
  have e2 : remS (nI j) 1000000 = nI (j % 1000000) := pk_rem (d := 1000000) hj (by decide) (by decide)
  rw [← e, e2]
  refine Or.inr ?_
  rw [show nI (j % 1000000) + 1001 = nI (j % 1000000 + 1001) from nI_add _ 1001, nI_toInt (by omega)]
  omega
theorem rf_res {S : HA} {far : Int32} (hf : FAR far) : xresident S [] P0 far = (-2, (S, (([] : List HA), P0))) := by
  rw [xresident, if_neg (not_not_intro (far_in hf (by decide) (by decide)))]
theorem rf_weigh {S : HA} {far : Int32} (h : sz S 0 = 0) : xweigh S [] P0 far 1 = (-1, (S, (([] : List HA), P0))) := by
  rw [xweigh, h, if_neg (not_not_intro (has_0 far))]
theorem rf_away {S : HA} {far : Int32} (h : sz S 0 = 0) : xaway S [] P0 far 0 1 = (-1, (S, (([] : List HA), P0))) := by
  rw [xaway, h, if_neg (not_not_intro (has_0 far))]
theorem rf_area1 {S : HA} {far : Int32} (hf : FAR far) : xarea S [] P0 far 1 0 = (-2, (S, (([] : List HA), P0))) := by
  rw [xarea, if_pos (far_in hf (by decide) (by decide))]
theorem rf_area2 {S : HA} {far : Int32} (hf : FAR far) : xarea S [] P0 1 far 0 = (-2, (S, (([] : List HA), P0))) := by
  rw [xarea, if_neg (by decide), if_pos (far_in hf (by decide) (by decide))]
theorem rf_area3 {S : HA} {far : Int32} (hf : FAR far) : xarea S [] P0 1 1 far = (-2, (S, (([] : List HA), P0))) := by
  rw [xarea, if_neg (by decide), if_neg (by decide), if_neg (not_not_intro (far_in hf (by decide) (by decide)))]
theorem rf_set1 {S : HA} {far : Int32} (hf : FAR far) : xset S [] P0 far 1 = (-2, (S, (([] : List HA), P0))) := by
  rw [xset, if_neg (not_not_intro (show setOkS far 1 = 0 from far_sw hf (by decide) (by decide)))]
theorem rf_set2 {S : HA} {far : Int32} (hf : FAR far) : xset S [] P0 3 far = (-2, (S, (([] : List HA), P0))) := by
  rw [xset, if_neg (not_not_intro (show setOkS 3 far = 0 from (sw_in (j := 3) (by decide) (by decide)).trans (far_in hf (by decide) (by decide))))]
theorem rf_done {S : HA} {far : Int32} (h : sz S 2 = 0) : xdone S [] P0 far = (-1, (S, (([] : List HA), P0))) := by
  rw [xdone, h, if_neg (not_not_intro (has_0 far))]
theorem rf_extra {S : HA} {far : Int32} (h : sz S 0 = 0) : xextra S [] P0 far 0 = (-1, (S, (([] : List HA), P0))) := by
  rw [xextra, h, if_pos (has_0 far)]
theorem rf_end {S : HA} (h : S.2 6 = 0) : xend S [] P0 = (-5, (S, (([] : List HA), P0))) := by
  rw [xend, if_pos h]
theorem rf_prop {S : HA} {far : Int32} (h : sz S 2 = 0) : xpropose S [] P0 far 0 = (-1, (S, (([] : List HA), P0))) := by
  rw [xpropose, h, if_pos (has_0 far)]
theorem rf_ans {S : HA} {far : Int32} (h : sz S 3 = 0) : xanswer S [] P0 far 1 = (-1, (S, (([] : List HA), P0))) := by
  rw [xanswer, h, if_neg (not_not_intro (has_0 far))]
theorem rf_about {S : HA} {far : Int32} (h : sz S 0 = 0) : xabout S far 0 = -1 := by
  rw [xabout, h, if_neg (not_not_intro (has_0 far))]
theorem rf_room {S : HA} {far : Int32} (h : sz S 1 = 0) : xroom S far 0 = -1 := by
  rw [xroom, h, if_neg (not_not_intro (has_0 far))]
theorem rf_task {S : HA} {far : Int32} (h : sz S 2 = 0) : xtask S far 0 = -1 := by
  rw [xtask, h, if_neg (not_not_intro (has_0 far))]
theorem rf_swap {S : HA} {far : Int32} (h : sz S 3 = 0) : xswap S far 0 = -1 := by
  rw [xswap, h, if_neg (not_not_intro (has_0 far))]
theorem rf_count {S : HA} {far : Int32} (hf : FAR far) : xcount S [] P0 far = -2 := by
  rw [xcount, far_sw hf (by decide) (by decide)]
theorem rf_fore1 {S : HA} {far : Int32} (hf : FAR far) : xforecast S far 0 = -2 := by
  rw [xforecast, if_pos (far_in hf (by decide) (by decide))]
theorem rf_fore2 {S : HA} {far : Int32} (hf : FAR far) : xforecast S 0 far = -2 := by
  rw [xforecast, if_neg (by decide), if_neg (not_not_intro (far_in hf (by decide) (by decide)))]
theorem rf_fair {S : HA} {far : Int32} (hf : FAR far) : xfairer S far = -2 := by
  rw [xfairer, if_neg (not_not_intro (far_in hf (by decide) (by decide)))]
theorem rf_load {S : HA} : xload S [] P0 = (-3, (S, (([] : List HA), P0))) := by
  rw [xload, if_neg (show ¬ (rdF P0 61 0 T0).1 = -6 by decide)]
theorem rf_undo {S : HA} : xundo S [] P0 = (-5, (S, (([] : List HA), P0))) := by
  rw [xundo, if_pos (show ([] : List HA).length = 0 from rfl)]
set_option maxHeartbeats 4000000 in
theorem c_L_refused (l : Launch) {S : HA} {v : Int32} (h0 : sz S 0 = 0) (h1 : sz S 1 = 0) (h2 : sz S 2 = 0) (h3 : sz S 3 = 0) (h6 : S.2 6 = 0) (h5 : S.2 5 = 0)  : LCon l (RL_ 7 0 0 224) yL_refused cL_refused 3 [vR (7, 0, 0), vI v] ((S, (([] : List HA), P0)) : XS) (fun v X' => v = 1 ∧ X' = ((S, (([] : List HA), P0)) : XS)) := by
  refine lcon_of (by decide +kernel) rfl (Nat.le_of_ble_eq_true rfl) (fun B => ?_)
  show GL l (RL_ 7 0 0 224) cL_refused 3 _ (KM (fun v X' => v = 1 ∧ X' = ((S, (([] : List HA), P0)) : XS)) 0 0) 0 [] B [some (vR (7, 0, 0)), some (vI v), none] [] ((S, (([] : List HA), P0)) : XS) 0 0
  generalize hK : KM (fun v X' => v = 1 ∧ X' = ((S, (([] : List HA), P0)) : XS)) 0 0 = K
  refine l_blk (pc' := 1) (loc' := [some (vR (7, 0, 0)), some (vI v), none]) (st' := [vI v]) (B' := B) [(0, .iload_n 1)] (by decide +kernel) rfl rfl ?_
  have hm1 : ∀ far : Int32, FAR far → GL l (RL_ 7 0 0 224) cL_refused 3 (some .boolean) K 24 [] (B) [some (vR (7, 0, 0)), some (vI v), none] [vI far] ((S, (([] : List HA), P0)) : XS) 0 0 := by
    intro far hf
    refine l_blk (pc' := 27) (loc' := [some (vR (7, 0, 0)), some (vI v), some (vI far)]) (st' := [vI far, vR (7, 0, 0)]) (B' := B) [(24, .istore_n 2), (25, .aload_n 0), (26, .iload_n 2)] (by decide +kernel) rfl rfl ?_
    refine l_callV (-2 : Int32) ((S, (([] : List HA), P0)) : XS) [vI far] [] vl_RL_29 mi_X4_resident (k_resident l (rf_res hf)) rfl rfl rfl ⟨Nat.le_of_ble_eq_true rfl, Nat.le_of_ble_eq_true rfl⟩ rfl (Nat.le_of_ble_eq_true rfl) ⟨Nat.le_of_ble_eq_true rfl, Nat.le_of_ble_eq_true rfl⟩ (by decide +kernel) ?_
    refine l_blk (pc' := 32) (loc' := [some (vR (7, 0, 0)), some (vI v), some (vI far)]) (st' := [vI (-2 : Int32), vI (-2 : Int32)]) (B' := B) [(30, .bipush (-2))] (by decide +kernel) rfl rfl ?_
    refine l_icmp_ne (off := 242) (tgt := 274) (by decide +kernel) (by decide) (fun zc32 => ?_) (fun zc32 => ?_)
    · exact absurd zc32 (by decide)
    · refine l_blk (pc' := 38) (loc' := [some (vR (7, 0, 0)), some (vI v), some (vI far)]) (st' := [vI (1 : Int32), vI far, vR (7, 0, 0)]) (B' := B) [(35, .aload_n 0), (36, .iload_n 2), (37, .iconst 1)] (by decide +kernel) rfl rfl ?_
      refine l_callV (-1 : Int32) ((S, (([] : List HA), P0)) : XS) [vI far, vI (1 : Int32)] [] vl_RL_142 mi_X4_weigh (k_weigh l (rf_weigh h0)) rfl rfl rfl ⟨Nat.le_of_ble_eq_true rfl, Nat.le_of_ble_eq_true rfl⟩ rfl (Nat.le_of_ble_eq_true rfl) ⟨Nat.le_of_ble_eq_true rfl, Nat.le_of_ble_eq_true rfl⟩ (by decide +kernel) ?_
      refine l_blk (pc' := 42) (loc' := [some (vR (7, 0, 0)), some (vI v), some (vI far)]) (st' := [vI (-1 : Int32), vI (-1 : Int32)]) (B' := B) [(41, .iconst (-1))] (by decide +kernel) rfl rfl ?_
      refine l_icmp_ne (off := 232) (tgt := 274) (by decide +kernel) (by decide) (fun zc42 => ?_) (fun zc42 => ?_)
      · exact absurd zc42 (by decide)
      · refine l_blk (pc' := 49) (loc' := [some (vR (7, 0, 0)), some (vI v), some (vI far)]) (st' := [vI (1 : Int32), vI (0 : Int32), vI far, vR (7, 0, 0)]) (B' := B) [(45, .aload_n 0), (46, .iload_n 2), (47, .iconst 0), (48, .iconst 1)] (by decide +kernel) rfl rfl ?_
        refine l_callV (-1 : Int32) ((S, (([] : List HA), P0)) : XS) [vI far, vI (0 : Int32), vI (1 : Int32)] [] vl_RL_95 mi_X4_away (k_away l (rf_away h0)) rfl rfl rfl ⟨Nat.le_of_ble_eq_true rfl, Nat.le_of_ble_eq_true rfl⟩ rfl (Nat.le_of_ble_eq_true rfl) ⟨Nat.le_of_ble_eq_true rfl, Nat.le_of_ble_eq_true rfl⟩ (by decide +kernel) ?_
        refine l_blk (pc' := 53) (loc' := [some (vR (7, 0, 0)), some (vI v), some (vI far)]) (st' := [vI (-1 : Int32), vI (-1 : Int32)]) (B' := B) [(52, .iconst (-1))] (by decide +kernel) rfl rfl ?_
        refine l_icmp_ne (off := 221) (tgt := 274) (by decide +kernel) (by decide) (fun zc53 => ?_) (fun zc53 => ?_)
        · exact absurd zc53 (by decide)
        · refine l_blk (pc' := 60) (loc' := [some (vR (7, 0, 0)), some (vI v), some (vI far)]) (st' := [vI (0 : Int32), vI (1 : Int32), vI far, vR (7, 0, 0)]) (B' := B) [(56, .aload_n 0), (57, .iload_n 2), (58, .iconst 1), (59, .iconst 0)] (by decide +kernel) rfl rfl ?_
          refine l_callV (-2 : Int32) ((S, (([] : List HA), P0)) : XS) [vI far, vI (1 : Int32), vI (0 : Int32)] [] vl_RL_33 mi_X4_area (k_area l (rf_area1 hf)) rfl rfl rfl ⟨Nat.le_of_ble_eq_true rfl, Nat.le_of_ble_eq_true rfl⟩ rfl (Nat.le_of_ble_eq_true rfl) ⟨Nat.le_of_ble_eq_true rfl, Nat.le_of_ble_eq_true rfl⟩ (by decide +kernel) ?_
          refine l_blk (pc' := 65) (loc' := [some (vR (7, 0, 0)), some (vI v), some (vI far)]) (st' := [vI (-2 : Int32), vI (-2 : Int32)]) (B' := B) [(63, .bipush (-2))] (by decide +kernel) rfl rfl ?_
          refine l_icmp_ne (off := 209) (tgt := 274) (by decide +kernel) (by decide) (fun zc65 => ?_) (fun zc65 => ?_)
          · exact absurd zc65 (by decide)
          · refine l_blk (pc' := 72) (loc' := [some (vR (7, 0, 0)), some (vI v), some (vI far)]) (st' := [vI (0 : Int32), vI far, vI (1 : Int32), vR (7, 0, 0)]) (B' := B) [(68, .aload_n 0), (69, .iconst 1), (70, .iload_n 2), (71, .iconst 0)] (by decide +kernel) rfl rfl ?_
            refine l_callV (-2 : Int32) ((S, (([] : List HA), P0)) : XS) [vI (1 : Int32), vI far, vI (0 : Int32)] [] vl_RL_33 mi_X4_area (k_area l (rf_area2 hf)) rfl rfl rfl ⟨Nat.le_of_ble_eq_true rfl, Nat.le_of_ble_eq_true rfl⟩ rfl (Nat.le_of_ble_eq_true rfl) ⟨Nat.le_of_ble_eq_true rfl, Nat.le_of_ble_eq_true rfl⟩ (by decide +kernel) ?_
            refine l_blk (pc' := 77) (loc' := [some (vR (7, 0, 0)), some (vI v), some (vI far)]) (st' := [vI (-2 : Int32), vI (-2 : Int32)]) (B' := B) [(75, .bipush (-2))] (by decide +kernel) rfl rfl ?_
            refine l_icmp_ne (off := 197) (tgt := 274) (by decide +kernel) (by decide) (fun zc77 => ?_) (fun zc77 => ?_)
            · exact absurd zc77 (by decide)
            · refine l_blk (pc' := 84) (loc' := [some (vR (7, 0, 0)), some (vI v), some (vI far)]) (st' := [vI far, vI (1 : Int32), vI (1 : Int32), vR (7, 0, 0)]) (B' := B) [(80, .aload_n 0), (81, .iconst 1), (82, .iconst 1), (83, .iload_n 2)] (by decide +kernel) rfl rfl ?_
              refine l_callV (-2 : Int32) ((S, (([] : List HA), P0)) : XS) [vI (1 : Int32), vI (1 : Int32), vI far] [] vl_RL_33 mi_X4_area (k_area l (rf_area3 hf)) rfl rfl rfl ⟨Nat.le_of_ble_eq_true rfl, Nat.le_of_ble_eq_true rfl⟩ rfl (Nat.le_of_ble_eq_true rfl) ⟨Nat.le_of_ble_eq_true rfl, Nat.le_of_ble_eq_true rfl⟩ (by decide +kernel) ?_
              refine l_blk (pc' := 89) (loc' := [some (vR (7, 0, 0)), some (vI v), some (vI far)]) (st' := [vI (-2 : Int32), vI (-2 : Int32)]) (B' := B) [(87, .bipush (-2))] (by decide +kernel) rfl rfl ?_
              refine l_icmp_ne (off := 185) (tgt := 274) (by decide +kernel) (by decide) (fun zc89 => ?_) (fun zc89 => ?_)
              · exact absurd zc89 (by decide)
              · refine l_blk (pc' := 95) (loc' := [some (vR (7, 0, 0)), some (vI v), some (vI far)]) (st' := [vI (1 : Int32), vI far, vR (7, 0, 0)]) (B' := B) [(92, .aload_n 0), (93, .iload_n 2), (94, .iconst 1)] (by decide +kernel) rfl rfl ?_
                refine l_callV (-2 : Int32) ((S, (([] : List HA), P0)) : XS) [vI far, vI (1 : Int32)] [] vl_RL_26 mi_X4_set (k_set l (rf_set1 hf)) rfl rfl rfl ⟨Nat.le_of_ble_eq_true rfl, Nat.le_of_ble_eq_true rfl⟩ rfl (Nat.le_of_ble_eq_true rfl) ⟨Nat.le_of_ble_eq_true rfl, Nat.le_of_ble_eq_true rfl⟩ (by decide +kernel) ?_
                refine l_blk (pc' := 100) (loc' := [some (vR (7, 0, 0)), some (vI v), some (vI far)]) (st' := [vI (-2 : Int32), vI (-2 : Int32)]) (B' := B) [(98, .bipush (-2))] (by decide +kernel) rfl rfl ?_
                refine l_icmp_ne (off := 174) (tgt := 274) (by decide +kernel) (by decide) (fun zc100 => ?_) (fun zc100 => ?_)
                · exact absurd zc100 (by decide)
                · refine l_blk (pc' := 106) (loc' := [some (vR (7, 0, 0)), some (vI v), some (vI far)]) (st' := [vI far, vI (3 : Int32), vR (7, 0, 0)]) (B' := B) [(103, .aload_n 0), (104, .iconst 3), (105, .iload_n 2)] (by decide +kernel) rfl rfl ?_
                  refine l_callV (-2 : Int32) ((S, (([] : List HA), P0)) : XS) [vI (3 : Int32), vI far] [] vl_RL_26 mi_X4_set (k_set l (rf_set2 hf)) rfl rfl rfl ⟨Nat.le_of_ble_eq_true rfl, Nat.le_of_ble_eq_true rfl⟩ rfl (Nat.le_of_ble_eq_true rfl) ⟨Nat.le_of_ble_eq_true rfl, Nat.le_of_ble_eq_true rfl⟩ (by decide +kernel) ?_
                  refine l_blk (pc' := 111) (loc' := [some (vR (7, 0, 0)), some (vI v), some (vI far)]) (st' := [vI (-2 : Int32), vI (-2 : Int32)]) (B' := B) [(109, .bipush (-2))] (by decide +kernel) rfl rfl ?_
                  refine l_icmp_ne (off := 163) (tgt := 274) (by decide +kernel) (by decide) (fun zc111 => ?_) (fun zc111 => ?_)
                  · exact absurd zc111 (by decide)
                  · refine l_blk (pc' := 116) (loc' := [some (vR (7, 0, 0)), some (vI v), some (vI far)]) (st' := [vI far, vR (7, 0, 0)]) (B' := B) [(114, .aload_n 0), (115, .iload_n 2)] (by decide +kernel) rfl rfl ?_
                    refine l_callV (-1 : Int32) ((S, (([] : List HA), P0)) : XS) [vI far] [] vl_RL_66 mi_X4_done (k_done l (rf_done h2)) rfl rfl rfl ⟨Nat.le_of_ble_eq_true rfl, Nat.le_of_ble_eq_true rfl⟩ rfl (Nat.le_of_ble_eq_true rfl) ⟨Nat.le_of_ble_eq_true rfl, Nat.le_of_ble_eq_true rfl⟩ (by decide +kernel) ?_
                    refine l_blk (pc' := 120) (loc' := [some (vR (7, 0, 0)), some (vI v), some (vI far)]) (st' := [vI (-1 : Int32), vI (-1 : Int32)]) (B' := B) [(119, .iconst (-1))] (by decide +kernel) rfl rfl ?_
                    refine l_icmp_ne (off := 154) (tgt := 274) (by decide +kernel) (by decide) (fun zc120 => ?_) (fun zc120 => ?_)
                    · exact absurd zc120 (by decide)
                    · refine l_blk (pc' := 126) (loc' := [some (vR (7, 0, 0)), some (vI v), some (vI far)]) (st' := [vI (0 : Int32), vI far, vR (7, 0, 0)]) (B' := B) [(123, .aload_n 0), (124, .iload_n 2), (125, .iconst 0)] (by decide +kernel) rfl rfl ?_
                      refine l_callV (-1 : Int32) ((S, (([] : List HA), P0)) : XS) [vI far, vI (0 : Int32)] [] vl_RL_113 mi_X4_extra (k_extra l (rf_extra h0)) rfl rfl rfl ⟨Nat.le_of_ble_eq_true rfl, Nat.le_of_ble_eq_true rfl⟩ rfl (Nat.le_of_ble_eq_true rfl) ⟨Nat.le_of_ble_eq_true rfl, Nat.le_of_ble_eq_true rfl⟩ (by decide +kernel) ?_
                      refine l_blk (pc' := 130) (loc' := [some (vR (7, 0, 0)), some (vI v), some (vI far)]) (st' := [vI (-1 : Int32), vI (-1 : Int32)]) (B' := B) [(129, .iconst (-1))] (by decide +kernel) rfl rfl ?_
                      refine l_icmp_ne (off := 144) (tgt := 274) (by decide +kernel) (by decide) (fun zc130 => ?_) (fun zc130 => ?_)
                      · exact absurd zc130 (by decide)
                      · refine l_blk (pc' := 134) (loc' := [some (vR (7, 0, 0)), some (vI v), some (vI far)]) (st' := [vR (7, 0, 0)]) (B' := B) [(133, .aload_n 0)] (by decide +kernel) rfl rfl ?_
                        refine l_callV (-5 : Int32) ((S, (([] : List HA), P0)) : XS) [] [] vl_RL_72 mi_X4_end (k_end l (rf_end h6)) rfl rfl rfl ⟨Nat.le_of_ble_eq_true rfl, Nat.le_of_ble_eq_true rfl⟩ rfl (Nat.le_of_ble_eq_true rfl) ⟨Nat.le_of_ble_eq_true rfl, Nat.le_of_ble_eq_true rfl⟩ (by decide +kernel) ?_
                        refine l_blk (pc' := 139) (loc' := [some (vR (7, 0, 0)), some (vI v), some (vI far)]) (st' := [vI (-5 : Int32), vI (-5 : Int32)]) (B' := B) [(137, .bipush (-5))] (by decide +kernel) rfl rfl ?_
                        refine l_icmp_ne (off := 135) (tgt := 274) (by decide +kernel) (by decide) (fun zc139 => ?_) (fun zc139 => ?_)
                        · exact absurd zc139 (by decide)
                        · refine l_blk (pc' := 145) (loc' := [some (vR (7, 0, 0)), some (vI v), some (vI far)]) (st' := [vI (0 : Int32), vI far, vR (7, 0, 0)]) (B' := B) [(142, .aload_n 0), (143, .iload_n 2), (144, .iconst 0)] (by decide +kernel) rfl rfl ?_
                          refine l_callV (-1 : Int32) ((S, (([] : List HA), P0)) : XS) [vI far, vI (0 : Int32)] [] vl_RL_83 mi_X4_propose (k_propose l (rf_prop h2)) rfl rfl rfl ⟨Nat.le_of_ble_eq_true rfl, Nat.le_of_ble_eq_true rfl⟩ rfl (Nat.le_of_ble_eq_true rfl) ⟨Nat.le_of_ble_eq_true rfl, Nat.le_of_ble_eq_true rfl⟩ (by decide +kernel) ?_
                          refine l_blk (pc' := 149) (loc' := [some (vR (7, 0, 0)), some (vI v), some (vI far)]) (st' := [vI (-1 : Int32), vI (-1 : Int32)]) (B' := B) [(148, .iconst (-1))] (by decide +kernel) rfl rfl ?_
                          refine l_icmp_ne (off := 125) (tgt := 274) (by decide +kernel) (by decide) (fun zc149 => ?_) (fun zc149 => ?_)
                          · exact absurd zc149 (by decide)
                          · refine l_blk (pc' := 155) (loc' := [some (vR (7, 0, 0)), some (vI v), some (vI far)]) (st' := [vI (1 : Int32), vI far, vR (7, 0, 0)]) (B' := B) [(152, .aload_n 0), (153, .iload_n 2), (154, .iconst 1)] (by decide +kernel) rfl rfl ?_
                            refine l_callV (-1 : Int32) ((S, (([] : List HA), P0)) : XS) [vI far, vI (1 : Int32)] [] vl_RL_89 mi_X4_answer (k_answer l (rf_ans h3)) rfl rfl rfl ⟨Nat.le_of_ble_eq_true rfl, Nat.le_of_ble_eq_true rfl⟩ rfl (Nat.le_of_ble_eq_true rfl) ⟨Nat.le_of_ble_eq_true rfl, Nat.le_of_ble_eq_true rfl⟩ (by decide +kernel) ?_
                            refine l_blk (pc' := 159) (loc' := [some (vR (7, 0, 0)), some (vI v), some (vI far)]) (st' := [vI (-1 : Int32), vI (-1 : Int32)]) (B' := B) [(158, .iconst (-1))] (by decide +kernel) rfl rfl ?_
                            refine l_icmp_ne (off := 115) (tgt := 274) (by decide +kernel) (by decide) (fun zc159 => ?_) (fun zc159 => ?_)
                            · exact absurd zc159 (by decide)
                            · refine l_blk (pc' := 165) (loc' := [some (vR (7, 0, 0)), some (vI v), some (vI far)]) (st' := [vI (0 : Int32), vI far, vR (7, 0, 0)]) (B' := B) [(162, .aload_n 0), (163, .iload_n 2), (164, .iconst 0)] (by decide +kernel) rfl rfl ?_
                              refine l_callV (-1 : Int32) ((S, (([] : List HA), P0)) : XS) [vI far, vI (0 : Int32)] [] vl_RL_98 mi_X4_about (k_about l (rf_about h0)) rfl rfl rfl ⟨Nat.le_of_ble_eq_true rfl, Nat.le_of_ble_eq_true rfl⟩ rfl (Nat.le_of_ble_eq_true rfl) ⟨Nat.le_of_ble_eq_true rfl, Nat.le_of_ble_eq_true rfl⟩ (by decide +kernel) ?_
                              refine l_blk (pc' := 169) (loc' := [some (vR (7, 0, 0)), some (vI v), some (vI far)]) (st' := [vI (-1 : Int32), vI (-1 : Int32)]) (B' := B) [(168, .iconst (-1))] (by decide +kernel) rfl rfl ?_
                              refine l_icmp_ne (off := 105) (tgt := 274) (by decide +kernel) (by decide) (fun zc169 => ?_) (fun zc169 => ?_)
                              · exact absurd zc169 (by decide)
                              · refine l_blk (pc' := 175) (loc' := [some (vR (7, 0, 0)), some (vI v), some (vI far)]) (st' := [vI (0 : Int32), vI far, vR (7, 0, 0)]) (B' := B) [(172, .aload_n 0), (173, .iload_n 2), (174, .iconst 0)] (by decide +kernel) rfl rfl ?_
                                refine l_callV (-1 : Int32) ((S, (([] : List HA), P0)) : XS) [vI far, vI (0 : Int32)] [] vl_RL_104 mi_X4_room (k_room l (rf_room h1)) rfl rfl rfl ⟨Nat.le_of_ble_eq_true rfl, Nat.le_of_ble_eq_true rfl⟩ rfl (Nat.le_of_ble_eq_true rfl) ⟨Nat.le_of_ble_eq_true rfl, Nat.le_of_ble_eq_true rfl⟩ (by decide +kernel) ?_
                                refine l_blk (pc' := 179) (loc' := [some (vR (7, 0, 0)), some (vI v), some (vI far)]) (st' := [vI (-1 : Int32), vI (-1 : Int32)]) (B' := B) [(178, .iconst (-1))] (by decide +kernel) rfl rfl ?_
                                refine l_icmp_ne (off := 95) (tgt := 274) (by decide +kernel) (by decide) (fun zc179 => ?_) (fun zc179 => ?_)
                                · exact absurd zc179 (by decide)
                                · refine l_blk (pc' := 185) (loc' := [some (vR (7, 0, 0)), some (vI v), some (vI far)]) (st' := [vI (0 : Int32), vI far, vR (7, 0, 0)]) (B' := B) [(182, .aload_n 0), (183, .iload_n 2), (184, .iconst 0)] (by decide +kernel) rfl rfl ?_
                                  refine l_callV (-1 : Int32) ((S, (([] : List HA), P0)) : XS) [vI far, vI (0 : Int32)] [] vl_RL_107 mi_X4_task (k_task l (rf_task h2)) rfl rfl rfl ⟨Nat.le_of_ble_eq_true rfl, Nat.le_of_ble_eq_true rfl⟩ rfl (Nat.le_of_ble_eq_true rfl) ⟨Nat.le_of_ble_eq_true rfl, Nat.le_of_ble_eq_true rfl⟩ (by decide +kernel) ?_
                                  refine l_blk (pc' := 189) (loc' := [some (vR (7, 0, 0)), some (vI v), some (vI far)]) (st' := [vI (-1 : Int32), vI (-1 : Int32)]) (B' := B) [(188, .iconst (-1))] (by decide +kernel) rfl rfl ?_
                                  refine l_icmp_ne (off := 85) (tgt := 274) (by decide +kernel) (by decide) (fun zc189 => ?_) (fun zc189 => ?_)
                                  · exact absurd zc189 (by decide)
                                  · refine l_blk (pc' := 195) (loc' := [some (vR (7, 0, 0)), some (vI v), some (vI far)]) (st' := [vI (0 : Int32), vI far, vR (7, 0, 0)]) (B' := B) [(192, .aload_n 0), (193, .iload_n 2), (194, .iconst 0)] (by decide +kernel) rfl rfl ?_
                                    refine l_callV (-1 : Int32) ((S, (([] : List HA), P0)) : XS) [vI far, vI (0 : Int32)] [] vl_RL_110 mi_X4_swap (k_swap l (rf_swap h3)) rfl rfl rfl ⟨Nat.le_of_ble_eq_true rfl, Nat.le_of_ble_eq_true rfl⟩ rfl (Nat.le_of_ble_eq_true rfl) ⟨Nat.le_of_ble_eq_true rfl, Nat.le_of_ble_eq_true rfl⟩ (by decide +kernel) ?_
                                    refine l_blk (pc' := 199) (loc' := [some (vR (7, 0, 0)), some (vI v), some (vI far)]) (st' := [vI (-1 : Int32), vI (-1 : Int32)]) (B' := B) [(198, .iconst (-1))] (by decide +kernel) rfl rfl ?_
                                    refine l_icmp_ne (off := 75) (tgt := 274) (by decide +kernel) (by decide) (fun zc199 => ?_) (fun zc199 => ?_)
                                    · exact absurd zc199 (by decide)
                                    · refine l_blk (pc' := 204) (loc' := [some (vR (7, 0, 0)), some (vI v), some (vI far)]) (st' := [vI far, vR (7, 0, 0)]) (B' := B) [(202, .aload_n 0), (203, .iload_n 2)] (by decide +kernel) rfl rfl ?_
                                      refine l_callV (-2 : Int32) ((S, (([] : List HA), P0)) : XS) [vI far] [] vl_RL_60 mi_X4_count (k_count l (rf_count hf)) rfl rfl rfl ⟨Nat.le_of_ble_eq_true rfl, Nat.le_of_ble_eq_true rfl⟩ rfl (Nat.le_of_ble_eq_true rfl) ⟨Nat.le_of_ble_eq_true rfl, Nat.le_of_ble_eq_true rfl⟩ (by decide +kernel) ?_
                                      refine l_blk (pc' := 209) (loc' := [some (vR (7, 0, 0)), some (vI v), some (vI far)]) (st' := [vI (-2 : Int32), vI (-2 : Int32)]) (B' := B) [(207, .bipush (-2))] (by decide +kernel) rfl rfl ?_
                                      refine l_icmp_ne (off := 65) (tgt := 274) (by decide +kernel) (by decide) (fun zc209 => ?_) (fun zc209 => ?_)
                                      · exact absurd zc209 (by decide)
                                      · refine l_blk (pc' := 215) (loc' := [some (vR (7, 0, 0)), some (vI v), some (vI far)]) (st' := [vI (0 : Int32), vI far, vR (7, 0, 0)]) (B' := B) [(212, .aload_n 0), (213, .iload_n 2), (214, .iconst 0)] (by decide +kernel) rfl rfl ?_
                                        refine l_callV (-2 : Int32) ((S, (([] : List HA), P0)) : XS) [vI far, vI (0 : Int32)] [] vl_RL_115 mi_X4_forecast (k_forecast l (rf_fore1 hf)) rfl rfl rfl ⟨Nat.le_of_ble_eq_true rfl, Nat.le_of_ble_eq_true rfl⟩ rfl (Nat.le_of_ble_eq_true rfl) ⟨Nat.le_of_ble_eq_true rfl, Nat.le_of_ble_eq_true rfl⟩ (by decide +kernel) ?_
                                        refine l_blk (pc' := 220) (loc' := [some (vR (7, 0, 0)), some (vI v), some (vI far)]) (st' := [vI (-2 : Int32), vI (-2 : Int32)]) (B' := B) [(218, .bipush (-2))] (by decide +kernel) rfl rfl ?_
                                        refine l_icmp_ne (off := 54) (tgt := 274) (by decide +kernel) (by decide) (fun zc220 => ?_) (fun zc220 => ?_)
                                        · exact absurd zc220 (by decide)
                                        · refine l_blk (pc' := 226) (loc' := [some (vR (7, 0, 0)), some (vI v), some (vI far)]) (st' := [vI far, vI (0 : Int32), vR (7, 0, 0)]) (B' := B) [(223, .aload_n 0), (224, .iconst 0), (225, .iload_n 2)] (by decide +kernel) rfl rfl ?_
                                          refine l_callV (-2 : Int32) ((S, (([] : List HA), P0)) : XS) [vI (0 : Int32), vI far] [] vl_RL_115 mi_X4_forecast (k_forecast l (rf_fore2 hf)) rfl rfl rfl ⟨Nat.le_of_ble_eq_true rfl, Nat.le_of_ble_eq_true rfl⟩ rfl (Nat.le_of_ble_eq_true rfl) ⟨Nat.le_of_ble_eq_true rfl, Nat.le_of_ble_eq_true rfl⟩ (by decide +kernel) ?_
                                          refine l_blk (pc' := 231) (loc' := [some (vR (7, 0, 0)), some (vI v), some (vI far)]) (st' := [vI (-2 : Int32), vI (-2 : Int32)]) (B' := B) [(229, .bipush (-2))] (by decide +kernel) rfl rfl ?_
                                          refine l_icmp_ne (off := 43) (tgt := 274) (by decide +kernel) (by decide) (fun zc231 => ?_) (fun zc231 => ?_)
                                          · exact absurd zc231 (by decide)
                                          · refine l_blk (pc' := 236) (loc' := [some (vR (7, 0, 0)), some (vI v), some (vI far)]) (st' := [vI far, vR (7, 0, 0)]) (B' := B) [(234, .aload_n 0), (235, .iload_n 2)] (by decide +kernel) rfl rfl ?_
                                            refine l_callV (-2 : Int32) ((S, (([] : List HA), P0)) : XS) [vI far] [] vl_RL_134 mi_X4_fairer (k_fairer l (rf_fair hf)) rfl rfl rfl ⟨Nat.le_of_ble_eq_true rfl, Nat.le_of_ble_eq_true rfl⟩ rfl (Nat.le_of_ble_eq_true rfl) ⟨Nat.le_of_ble_eq_true rfl, Nat.le_of_ble_eq_true rfl⟩ (by decide +kernel) ?_
                                            refine l_blk (pc' := 241) (loc' := [some (vR (7, 0, 0)), some (vI v), some (vI far)]) (st' := [vI (-2 : Int32), vI (-2 : Int32)]) (B' := B) [(239, .bipush (-2))] (by decide +kernel) rfl rfl ?_
                                            refine l_icmp_ne (off := 33) (tgt := 274) (by decide +kernel) (by decide) (fun zc241 => ?_) (fun zc241 => ?_)
                                            · exact absurd zc241 (by decide)
                                            · refine l_blk (pc' := 245) (loc' := [some (vR (7, 0, 0)), some (vI v), some (vI far)]) (st' := [vR (7, 0, 0)]) (B' := B) [(244, .aload_n 0)] (by decide +kernel) rfl rfl ?_
                                              refine l_callV (-3 : Int32) ((S, (([] : List HA), P0)) : XS) [] [] vl_RL_127 mi_X4_load (k_load l (rf_load)) rfl rfl rfl ⟨Nat.le_of_ble_eq_true rfl, Nat.le_of_ble_eq_true rfl⟩ rfl (Nat.le_of_ble_eq_true rfl) ⟨Nat.le_of_ble_eq_true rfl, Nat.le_of_ble_eq_true rfl⟩ (by decide +kernel) ?_
                                              refine l_blk (pc' := 250) (loc' := [some (vR (7, 0, 0)), some (vI v), some (vI far)]) (st' := [vI (-3 : Int32), vI (-3 : Int32)]) (B' := B) [(248, .bipush (-3))] (by decide +kernel) rfl rfl ?_
                                              refine l_icmp_ne (off := 24) (tgt := 274) (by decide +kernel) (by decide) (fun zc250 => ?_) (fun zc250 => ?_)
                                              · exact absurd zc250 (by decide)
                                              · refine l_blk (pc' := 254) (loc' := [some (vR (7, 0, 0)), some (vI v), some (vI far)]) (st' := [vR (7, 0, 0)]) (B' := B) [(253, .aload_n 0)] (by decide +kernel) rfl rfl ?_
                                                refine l_callV (-5 : Int32) ((S, (([] : List HA), P0)) : XS) [] [] vl_RL_130 mi_X4_undo (k_undo l (rf_undo)) rfl rfl rfl ⟨Nat.le_of_ble_eq_true rfl, Nat.le_of_ble_eq_true rfl⟩ rfl (Nat.le_of_ble_eq_true rfl) ⟨Nat.le_of_ble_eq_true rfl, Nat.le_of_ble_eq_true rfl⟩ (by decide +kernel) ?_
                                                refine l_blk (pc' := 259) (loc' := [some (vR (7, 0, 0)), some (vI v), some (vI far)]) (st' := [vI (-5 : Int32), vI (-5 : Int32)]) (B' := B) [(257, .bipush (-5))] (by decide +kernel) rfl rfl ?_
                                                refine l_icmp_ne (off := 15) (tgt := 274) (by decide +kernel) (by decide) (fun zc259 => ?_) (fun zc259 => ?_)
                                                · exact absurd zc259 (by decide)
                                                · refine l_blk (pc' := 264) (loc' := [some (vR (7, 0, 0)), some (vI v), some (vI far)]) (st' := [vI (0 : Int32), vR (7, 0, 0)]) (B' := B) [(262, .aload_n 0), (263, .iconst 0)] (by decide +kernel) rfl rfl ?_
                                                  refine l_callV (0 : Int32) ((S, (([] : List HA), P0)) : XS) [vI (0 : Int32)] [] vl_RL_60 mi_X4_count (k_count l (r_count0.trans h5)) rfl rfl rfl ⟨Nat.le_of_ble_eq_true rfl, Nat.le_of_ble_eq_true rfl⟩ rfl (Nat.le_of_ble_eq_true rfl) ⟨Nat.le_of_ble_eq_true rfl, Nat.le_of_ble_eq_true rfl⟩ (by decide +kernel) ?_
                                                  refine l_if_ne (off := 7) (tgt := 274) (by decide +kernel) (by decide) (fun zc267 => ?_) (fun zc267 => ?_)
                                                  · exact absurd zc267 (by decide)
                                                  · refine l_blk (pc' := 275) (loc' := [some (vR (7, 0, 0)), some (vI v), some (vI far)]) (st' := [vI (1 : Int32)]) (B' := B) [(270, .iconst 1), (271, .goto 4)] (by decide +kernel) rfl rfl ?_
                                                    subst hK
                                                    exact l_zret ⟨Nat.le_of_ble_eq_true rfl, Nat.le_of_ble_eq_true rfl⟩ (Or.inr rfl) (⟨rfl, rfl⟩) (by decide +kernel)
  refine l_if_ge (off := 15) (tgt := 16) (by decide +kernel) (by decide) (fun zc1 => ?_) (fun zc1 => ?_)
  · refine l_blk (pc' := 17) (loc' := [some (vR (7, 0, 0)), some (vI v), none]) (st' := [vI v]) (B' := B) [(16, .iload_n 1)] (by decide +kernel) rfl rfl ?_
    refine l_ldc ki_RL_145 (by decide +kernel) ?_
    obtain ⟨r17, e17⟩ : ∃ r, remS v (1000000 : Int32) = r := ⟨_, rfl⟩
    refine l_irem (by decide +kernel) (by decide) ?_
    rw [e17]
    refine l_blk (pc' := 24) (loc' := [some (vR (7, 0, 0)), some (vI v), none]) (st' := [vI (r17 + (1001 : Int32))]) (B' := B) [(20, .sipush 1001), (23, .iadd)] (by decide +kernel) rfl rfl ?_
    exact hm1 _ (far_b zc1 e17)
  · refine l_blk (pc' := 7) (loc' := [some (vR (7, 0, 0)), some (vI v), none]) (st' := [vI v, vI (-7 : Int32)]) (B' := B) [(4, .bipush (-7)), (6, .iload_n 1)] (by decide +kernel) rfl rfl ?_
    refine l_ldc ki_RL_145 (by decide +kernel) ?_
    obtain ⟨u9, hu9, eu9, nu9⟩ := upV v 1000000 (by omega) (by omega)
    refine l_callS (nI u9) [vI v, vI (1000000 : Int32)] [vI (-7 : Int32)] sl_RL_22 mi_L_up (k_up l nu9 eu9) rfl rfl ⟨Nat.le_of_ble_eq_true rfl, Nat.le_of_ble_eq_true rfl⟩ rfl (Nat.le_of_ble_eq_true rfl) ⟨Nat.le_of_ble_eq_true rfl, Nat.le_of_ble_eq_true rfl⟩ (by decide +kernel) ?_
    refine l_blk (pc' := 24) (loc' := [some (vR (7, 0, 0)), some (vI v), none]) (st' := [vI ((-7 : Int32) - (nI u9))]) (B' := B) [(12, .isub), (13, .goto 11)] (by decide +kernel) rfl rfl ?_
    exact hm1 _ (far_a (show u9 < 1000000 from hu9))
