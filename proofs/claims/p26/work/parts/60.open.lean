/-! open() of the law -/
set_option maxHeartbeats 4000000 in
theorem c_L_open (l : Launch) {S : HA} {Hs : List HA} {P : PV} {n : Nat} (hV : V S n)  : LCon l (RL_ 5 0 0 160) yL_open cL_open 3 [vR (7, 0, 0)] ((S, (Hs, P)) : XS) (fun v X' => v = 1 ∧ X' = ((S, (Hs, P)) : XS)) := by
  refine lcon_of (by decide +kernel) rfl (Nat.le_of_ble_eq_true rfl) (fun B => ?_)
  show GL l (RL_ 5 0 0 160) cL_open 3 _ (KM (fun v X' => v = 1 ∧ X' = ((S, (Hs, P)) : XS)) 0 0) 0 [] B [some (vR (7, 0, 0)), none, none] [] ((S, (Hs, P)) : XS) 0 0
  generalize hK : KM (fun v X' => v = 1 ∧ X' = ((S, (Hs, P)) : XS)) 0 0 = K
  have hB := hV.1.2.1
  obtain ⟨b0, b1, b2, b3⟩ := id hB
  refine l_blk (pc' := 4) (loc' := [some (vR (7, 0, 0)), some (vI (0 : Int32)), some (vI (0 : Int32))]) (st' := []) (B' := B) [(0, .iconst 0), (1, .istore_n 1), (2, .iconst 0), (3, .istore_n 2)] (by decide +kernel) rfl rfl ?_
  have lp4 : ∀ (k4 i4 : Nat), i4 ≤ sz S 2 → sz S 2 < i4 + k4 → GL l (RL_ 5 0 0 160) cL_open 3 (some .boolean) K 4 [] (B) [some (vR (7, 0, 0)), some (vI (cntL S i4)), some (vI (nI i4))] [] ((S, (Hs, P)) : XS) 0 0 := by
    intro k4
    induction k4 with
    | zero =>
      intro i4 hi4 hk4
      exact absurd hk4 (by omega)
    | succ k4 ih4 =>
      intro i4 hi4 hk4
      refine l_blk (pc' := 7) (loc' := [some (vR (7, 0, 0)), some (vI (cntL S i4)), some (vI (nI i4))]) (st' := [vI (3 : Int32), vR (7, 0, 0), vI (nI i4)]) (B' := B) [(4, .iload_n 2), (5, .aload_n 0), (6, .iconst 3)] (by decide +kernel) rfl rfl ?_
      refine l_callV (nI (sz S 2)) ((S, (Hs, P)) : XS) [vI (3 : Int32)] [vI (nI i4)] vl_RL_60 mi_X4_count (k_count l (r_count3)) rfl rfl rfl ⟨Nat.le_of_ble_eq_true rfl, Nat.le_of_ble_eq_true rfl⟩ rfl (Nat.le_of_ble_eq_true rfl) ⟨Nat.le_of_ble_eq_true rfl, Nat.le_of_ble_eq_true rfl⟩ (by decide +kernel) ?_
      refine l_icmp_ge (off := 26) (tgt := 36) (by decide +kernel) (by decide) (fun zc10 => ?_) (fun zc10 => ?_)
      · rw [nI_leI (by omega) (by omega)] at zc10
        obtain rfl : i4 = sz S 2 := by omega
        refine l_blk (pc' := 38) (loc' := [some (vR (7, 0, 0)), some (vI (cntL S (sz S 2))), some (vI (0 : Int32))]) (st' := []) (B' := B) [(36, .iconst 0), (37, .istore_n 2)] (by decide +kernel) rfl rfl ?_
        have lp38 : ∀ (k38 i38 : Nat), i38 ≤ sz S 3 → sz S 3 < i38 + k38 → GL l (RL_ 5 0 0 160) cL_open 3 (some .boolean) K 38 [] (B) [some (vR (7, 0, 0)), some (vI (cntL S (sz S 2))), some (vI (nI i38))] [] ((S, (Hs, P)) : XS) 0 0 := by
          intro k38
          induction k38 with
          | zero =>
            intro i38 hi38 hk38
            exact absurd hk38 (by omega)
          | succ k38 ih38 =>
            intro i38 hi38 hk38
            refine l_blk (pc' := 42) (loc' := [some (vR (7, 0, 0)), some (vI (cntL S (sz S 2))), some (vI (nI i38))]) (st' := [vI (7 : Int32), vR (7, 0, 0), vI (nI i38)]) (B' := B) [(38, .iload_n 2), (39, .aload_n 0), (40, .bipush 7)] (by decide +kernel) rfl rfl ?_
            refine l_callV (nI (sz S 3)) ((S, (Hs, P)) : XS) [vI (7 : Int32)] [vI (nI i38)] vl_RL_60 mi_X4_count (k_count l (r_count7)) rfl rfl rfl ⟨Nat.le_of_ble_eq_true rfl, Nat.le_of_ble_eq_true rfl⟩ rfl (Nat.le_of_ble_eq_true rfl) ⟨Nat.le_of_ble_eq_true rfl, Nat.le_of_ble_eq_true rfl⟩ (by decide +kernel) ?_
            refine l_icmp_ge (off := 81) (tgt := 126) (by decide +kernel) (by decide) (fun zc45 => ?_) (fun zc45 => ?_)
            · rw [nI_leI (by omega) (by omega)] at zc45
              obtain rfl : i38 = sz S 3 := by omega
              refine l_blk (pc' := 128) (loc' := [some (vR (7, 0, 0)), some (vI (cntL S (sz S 2))), some (vI (nI (sz S 3)))]) (st' := [vI (4 : Int32), vR (7, 0, 0)]) (B' := B) [(126, .aload_n 0), (127, .iconst 4)] (by decide +kernel) rfl rfl ?_
              refine l_callV (cntL S (sz S 2)) ((S, (Hs, P)) : XS) [vI (4 : Int32)] [] vl_RL_60 mi_X4_count (k_count l (r_count4)) rfl rfl rfl ⟨Nat.le_of_ble_eq_true rfl, Nat.le_of_ble_eq_true rfl⟩ rfl (Nat.le_of_ble_eq_true rfl) ⟨Nat.le_of_ble_eq_true rfl, Nat.le_of_ble_eq_true rfl⟩ (by decide +kernel) ?_
              refine l_blk (pc' := 132) (loc' := [some (vR (7, 0, 0)), some (vI (cntL S (sz S 2))), some (vI (nI (sz S 3)))]) (st' := [vI (cntL S (sz S 2)), vI (cntL S (sz S 2))]) (B' := B) [(131, .iload_n 1)] (by decide +kernel) rfl rfl ?_
              refine l_icmp_ne (off := 25) (tgt := 157) (by decide +kernel) (by decide) (fun zc132 => ?_) (fun zc132 => ?_)
              · exact absurd rfl zc132
              · refine l_blk (pc' := 138) (loc' := [some (vR (7, 0, 0)), some (vI (cntL S (sz S 2))), some (vI (nI (sz S 3)))]) (st' := [vI (8 : Int32), vR (7, 0, 0)]) (B' := B) [(135, .aload_n 0), (136, .bipush 8)] (by decide +kernel) rfl rfl ?_
                refine l_callV (bitS (S.2 6)) ((S, (Hs, P)) : XS) [vI (8 : Int32)] [] vl_RL_60 mi_X4_count (k_count l (r_count8)) rfl rfl rfl ⟨Nat.le_of_ble_eq_true rfl, Nat.le_of_ble_eq_true rfl⟩ rfl (Nat.le_of_ble_eq_true rfl) ⟨Nat.le_of_ble_eq_true rfl, Nat.le_of_ble_eq_true rfl⟩ (by decide +kernel) ?_
                refine l_blk (pc' := 142) (loc' := [some (vR (7, 0, 0)), some (vI (cntL S (sz S 2))), some (vI (nI (sz S 3)))]) (st' := [vI (1 : Int32), vI (bitS (S.2 6))]) (B' := B) [(141, .iconst 1)] (by decide +kernel) rfl rfl ?_
                refine l_icmp_eq (off := 11) (tgt := 153) (by decide +kernel) (by decide) (fun zc142 => ?_) (fun zc142 => ?_)
                · refine l_blk (pc' := 158) (loc' := [some (vR (7, 0, 0)), some (vI (cntL S (sz S 2))), some (vI (nI (sz S 3)))]) (st' := [vI (1 : Int32)]) (B' := B) [(153, .iconst 1), (154, .goto 4)] (by decide +kernel) rfl rfl ?_
                  subst hK
                  exact l_zret ⟨Nat.le_of_ble_eq_true rfl, Nat.le_of_ble_eq_true rfl⟩ (Or.inr rfl) (⟨rfl, rfl⟩) (by decide +kernel)
                · refine l_blk (pc' := 147) (loc' := [some (vR (7, 0, 0)), some (vI (cntL S (sz S 2))), some (vI (nI (sz S 3)))]) (st' := [vI (3 : Int32), vR (7, 0, 0)]) (B' := B) [(145, .aload_n 0), (146, .iconst 3)] (by decide +kernel) rfl rfl ?_
                  refine l_callV (nI (sz S 2)) ((S, (Hs, P)) : XS) [vI (3 : Int32)] [] vl_RL_60 mi_X4_count (k_count l (r_count3)) rfl rfl rfl ⟨Nat.le_of_ble_eq_true rfl, Nat.le_of_ble_eq_true rfl⟩ rfl (Nat.le_of_ble_eq_true rfl) ⟨Nat.le_of_ble_eq_true rfl, Nat.le_of_ble_eq_true rfl⟩ (by decide +kernel) ?_
                  refine l_if_ne (off := 7) (tgt := 157) (by decide +kernel) (by decide) (fun zc150 => ?_) (fun zc150 => ?_)
                  · exact absurd zc150 (not_not_intro (open_0 hV.1.1 zc142))
                  · refine l_blk (pc' := 158) (loc' := [some (vR (7, 0, 0)), some (vI (cntL S (sz S 2))), some (vI (nI (sz S 3)))]) (st' := [vI (1 : Int32)]) (B' := B) [(153, .iconst 1), (154, .goto 4)] (by decide +kernel) rfl rfl ?_
                    subst hK
                    exact l_zret ⟨Nat.le_of_ble_eq_true rfl, Nat.le_of_ble_eq_true rfl⟩ (Or.inr rfl) (⟨rfl, rfl⟩) (by decide +kernel)
            · rw [nI_leI (by omega) (by omega)] at zc45
              obtain ⟨t0, ht0, e0, o0⟩ := hV.w i38 0 (by omega) (by decide)
              obtain ⟨t1, ht1, e1, o1⟩ := hV.w i38 1 (by omega) (by decide)
              refine l_blk (pc' := 52) (loc' := [some (vR (7, 0, 0)), some (vI (cntL S (sz S 2))), some (vI (nI i38))]) (st' := [vI (0 : Int32), vI (nI i38), vR (7, 0, 0), vR (7, 0, 0)]) (B' := B) [(48, .aload_n 0), (49, .aload_n 0), (50, .iload_n 2), (51, .iconst 0)] (by decide +kernel) rfl rfl ?_
              refine l_callV (nI t0) ((S, (Hs, P)) : XS) [vI (nI i38), vI (0 : Int32)] [vR (7, 0, 0)] vl_RL_110 mi_X4_swap (k_swap l ((r_swap0 hB (show i38 < sz S 3 by omega)).trans (e0))) rfl rfl rfl ⟨Nat.le_of_ble_eq_true rfl, Nat.le_of_ble_eq_true rfl⟩ rfl (Nat.le_of_ble_eq_true rfl) ⟨Nat.le_of_ble_eq_true rfl, Nat.le_of_ble_eq_true rfl⟩ (by decide +kernel) ?_
              refine l_blk (pc' := 56) (loc' := [some (vR (7, 0, 0)), some (vI (cntL S (sz S 2))), some (vI (nI i38))]) (st' := [vI (3 : Int32), vI (nI t0), vR (7, 0, 0)]) (B' := B) [(55, .iconst 3)] (by decide +kernel) rfl rfl ?_
              refine l_callV (0 : Int32) ((S, (Hs, P)) : XS) [vI (nI t0), vI (3 : Int32)] [] vl_RL_107 mi_X4_task (k_task l ((r_task3 hB (show t0 < sz S 2 by omega)).trans (o0))) rfl rfl rfl ⟨Nat.le_of_ble_eq_true rfl, Nat.le_of_ble_eq_true rfl⟩ rfl (Nat.le_of_ble_eq_true rfl) ⟨Nat.le_of_ble_eq_true rfl, Nat.le_of_ble_eq_true rfl⟩ (by decide +kernel) ?_
              refine l_blk (pc' := 60) (loc' := [some (vR (7, 0, 0)), some (vI (cntL S (sz S 2))), some (vI (nI i38))]) (st' := [vI (1 : Int32), vI (0 : Int32)]) (B' := B) [(59, .iconst 1)] (by decide +kernel) rfl rfl ?_
              refine l_icmp_eq (off := 58) (tgt := 118) (by decide +kernel) (by decide) (fun zc60 => ?_) (fun zc60 => ?_)
              · exact absurd zc60 (by decide)
              · refine l_blk (pc' := 67) (loc' := [some (vR (7, 0, 0)), some (vI (cntL S (sz S 2))), some (vI (nI i38))]) (st' := [vI (1 : Int32), vI (nI i38), vR (7, 0, 0), vR (7, 0, 0)]) (B' := B) [(63, .aload_n 0), (64, .aload_n 0), (65, .iload_n 2), (66, .iconst 1)] (by decide +kernel) rfl rfl ?_
                refine l_callV (nI t1) ((S, (Hs, P)) : XS) [vI (nI i38), vI (1 : Int32)] [vR (7, 0, 0)] vl_RL_110 mi_X4_swap (k_swap l ((r_swap1 hB (show i38 < sz S 3 by omega)).trans (e1))) rfl rfl rfl ⟨Nat.le_of_ble_eq_true rfl, Nat.le_of_ble_eq_true rfl⟩ rfl (Nat.le_of_ble_eq_true rfl) ⟨Nat.le_of_ble_eq_true rfl, Nat.le_of_ble_eq_true rfl⟩ (by decide +kernel) ?_
                refine l_blk (pc' := 71) (loc' := [some (vR (7, 0, 0)), some (vI (cntL S (sz S 2))), some (vI (nI i38))]) (st' := [vI (3 : Int32), vI (nI t1), vR (7, 0, 0)]) (B' := B) [(70, .iconst 3)] (by decide +kernel) rfl rfl ?_
                refine l_callV (0 : Int32) ((S, (Hs, P)) : XS) [vI (nI t1), vI (3 : Int32)] [] vl_RL_107 mi_X4_task (k_task l ((r_task3 hB (show t1 < sz S 2 by omega)).trans (o1))) rfl rfl rfl ⟨Nat.le_of_ble_eq_true rfl, Nat.le_of_ble_eq_true rfl⟩ rfl (Nat.le_of_ble_eq_true rfl) ⟨Nat.le_of_ble_eq_true rfl, Nat.le_of_ble_eq_true rfl⟩ (by decide +kernel) ?_
                refine l_blk (pc' := 75) (loc' := [some (vR (7, 0, 0)), some (vI (cntL S (sz S 2))), some (vI (nI i38))]) (st' := [vI (1 : Int32), vI (0 : Int32)]) (B' := B) [(74, .iconst 1)] (by decide +kernel) rfl rfl ?_
                refine l_icmp_eq (off := 43) (tgt := 118) (by decide +kernel) (by decide) (fun zc75 => ?_) (fun zc75 => ?_)
                · exact absurd zc75 (by decide)
                · refine l_blk (pc' := 81) (loc' := [some (vR (7, 0, 0)), some (vI (cntL S (sz S 2))), some (vI (nI i38))]) (st' := [vI (2 : Int32), vI (nI i38), vR (7, 0, 0)]) (B' := B) [(78, .aload_n 0), (79, .iload_n 2), (80, .iconst 2)] (by decide +kernel) rfl rfl ?_
                  refine l_callV (ce S 2 t0 1) ((S, (Hs, P)) : XS) [vI (nI i38), vI (2 : Int32)] [] vl_RL_110 mi_X4_swap (k_swap l ((r_swap2 hB (show i38 < sz S 3 by omega)).trans (by rw [e0, cl1 (by omega)]))) rfl rfl rfl ⟨Nat.le_of_ble_eq_true rfl, Nat.le_of_ble_eq_true rfl⟩ rfl (Nat.le_of_ble_eq_true rfl) ⟨Nat.le_of_ble_eq_true rfl, Nat.le_of_ble_eq_true rfl⟩ (by decide +kernel) ?_
                  refine l_blk (pc' := 88) (loc' := [some (vR (7, 0, 0)), some (vI (cntL S (sz S 2))), some (vI (nI i38))]) (st' := [vI (0 : Int32), vI (nI i38), vR (7, 0, 0), vR (7, 0, 0), vI (ce S 2 t0 1)]) (B' := B) [(84, .aload_n 0), (85, .aload_n 0), (86, .iload_n 2), (87, .iconst 0)] (by decide +kernel) rfl rfl ?_
                  refine l_callV (nI t0) ((S, (Hs, P)) : XS) [vI (nI i38), vI (0 : Int32)] [vR (7, 0, 0), vI (ce S 2 t0 1)] vl_RL_110 mi_X4_swap (k_swap l ((r_swap0 hB (show i38 < sz S 3 by omega)).trans (e0))) rfl rfl rfl ⟨Nat.le_of_ble_eq_true rfl, Nat.le_of_ble_eq_true rfl⟩ rfl (Nat.le_of_ble_eq_true rfl) ⟨Nat.le_of_ble_eq_true rfl, Nat.le_of_ble_eq_true rfl⟩ (by decide +kernel) ?_
                  refine l_blk (pc' := 92) (loc' := [some (vR (7, 0, 0)), some (vI (cntL S (sz S 2))), some (vI (nI i38))]) (st' := [vI (1 : Int32), vI (nI t0), vR (7, 0, 0), vI (ce S 2 t0 1)]) (B' := B) [(91, .iconst 1)] (by decide +kernel) rfl rfl ?_
                  refine l_callV (ce S 2 t0 1) ((S, (Hs, P)) : XS) [vI (nI t0), vI (1 : Int32)] [vI (ce S 2 t0 1)] vl_RL_107 mi_X4_task (k_task l (r_task1 hB (show t0 < sz S 2 by omega))) rfl rfl rfl ⟨Nat.le_of_ble_eq_true rfl, Nat.le_of_ble_eq_true rfl⟩ rfl (Nat.le_of_ble_eq_true rfl) ⟨Nat.le_of_ble_eq_true rfl, Nat.le_of_ble_eq_true rfl⟩ (by decide +kernel) ?_
                  refine l_icmp_ne (off := 23) (tgt := 118) (by decide +kernel) (by decide) (fun zc95 => ?_) (fun zc95 => ?_)
                  · exact absurd rfl zc95
                  · refine l_blk (pc' := 101) (loc' := [some (vR (7, 0, 0)), some (vI (cntL S (sz S 2))), some (vI (nI i38))]) (st' := [vI (3 : Int32), vI (nI i38), vR (7, 0, 0)]) (B' := B) [(98, .aload_n 0), (99, .iload_n 2), (100, .iconst 3)] (by decide +kernel) rfl rfl ?_
                    refine l_callV (ce S 2 t1 1) ((S, (Hs, P)) : XS) [vI (nI i38), vI (3 : Int32)] [] vl_RL_110 mi_X4_swap (k_swap l ((r_swap3 hB (show i38 < sz S 3 by omega)).trans (by rw [e1, cl1 (by omega)]))) rfl rfl rfl ⟨Nat.le_of_ble_eq_true rfl, Nat.le_of_ble_eq_true rfl⟩ rfl (Nat.le_of_ble_eq_true rfl) ⟨Nat.le_of_ble_eq_true rfl, Nat.le_of_ble_eq_true rfl⟩ (by decide +kernel) ?_
                    refine l_blk (pc' := 108) (loc' := [some (vR (7, 0, 0)), some (vI (cntL S (sz S 2))), some (vI (nI i38))]) (st' := [vI (1 : Int32), vI (nI i38), vR (7, 0, 0), vR (7, 0, 0), vI (ce S 2 t1 1)]) (B' := B) [(104, .aload_n 0), (105, .aload_n 0), (106, .iload_n 2), (107, .iconst 1)] (by decide +kernel) rfl rfl ?_
                    refine l_callV (nI t1) ((S, (Hs, P)) : XS) [vI (nI i38), vI (1 : Int32)] [vR (7, 0, 0), vI (ce S 2 t1 1)] vl_RL_110 mi_X4_swap (k_swap l ((r_swap1 hB (show i38 < sz S 3 by omega)).trans (e1))) rfl rfl rfl ⟨Nat.le_of_ble_eq_true rfl, Nat.le_of_ble_eq_true rfl⟩ rfl (Nat.le_of_ble_eq_true rfl) ⟨Nat.le_of_ble_eq_true rfl, Nat.le_of_ble_eq_true rfl⟩ (by decide +kernel) ?_
                    refine l_blk (pc' := 112) (loc' := [some (vR (7, 0, 0)), some (vI (cntL S (sz S 2))), some (vI (nI i38))]) (st' := [vI (1 : Int32), vI (nI t1), vR (7, 0, 0), vI (ce S 2 t1 1)]) (B' := B) [(111, .iconst 1)] (by decide +kernel) rfl rfl ?_
                    refine l_callV (ce S 2 t1 1) ((S, (Hs, P)) : XS) [vI (nI t1), vI (1 : Int32)] [vI (ce S 2 t1 1)] vl_RL_107 mi_X4_task (k_task l (r_task1 hB (show t1 < sz S 2 by omega))) rfl rfl rfl ⟨Nat.le_of_ble_eq_true rfl, Nat.le_of_ble_eq_true rfl⟩ rfl (Nat.le_of_ble_eq_true rfl) ⟨Nat.le_of_ble_eq_true rfl, Nat.le_of_ble_eq_true rfl⟩ (by decide +kernel) ?_
                    refine l_icmp_eq (off := 5) (tgt := 120) (by decide +kernel) (by decide) (fun zc115 => ?_) (fun zc115 => ?_)
                    · refine l_blk (pc' := 38) (loc' := [some (vR (7, 0, 0)), some (vI (cntL S (sz S 2))), some (vI ((nI i38) + (1 : Int32)))]) (st' := []) (B' := B) [(120, .iinc 2 1), (123, .goto (-85))] (by decide +kernel) rfl rfl ?_
                      exact l_sub (loc' := [some (vR (7, 0, 0)), some (vI (cntL S (sz S 2))), some (vI (nI (i38 + 1)))]) ⟨Or.inr rfl, ⟨Or.inr rfl, ⟨Or.inr (congrArg (fun z => some (vI z)) (nI_1 _).symm), trivial⟩⟩⟩ (ih38 (i38 + 1) (by omega) (by omega))
                    · exact absurd rfl zc115
        exact l_sub (loc' := [some (vR (7, 0, 0)), some (vI (cntL S (sz S 2))), some (vI (nI 0))]) ⟨Or.inr rfl, ⟨Or.inr rfl, ⟨Or.inr rfl, trivial⟩⟩⟩ (lp38 (sz S 3 + 1) 0 (by omega) (by omega))
      · rw [nI_leI (by omega) (by omega)] at zc10
        refine l_blk (pc' := 17) (loc' := [some (vR (7, 0, 0)), some (vI (cntL S i4)), some (vI (nI i4))]) (st' := [vI (3 : Int32), vI (nI i4), vR (7, 0, 0), vI (cntL S i4)]) (B' := B) [(13, .iload_n 1), (14, .aload_n 0), (15, .iload_n 2), (16, .iconst 3)] (by decide +kernel) rfl rfl ?_
        refine l_callV (ce S 2 i4 3) ((S, (Hs, P)) : XS) [vI (nI i4), vI (3 : Int32)] [vI (cntL S i4)] vl_RL_107 mi_X4_task (k_task l (r_task3 hB (show i4 < sz S 2 by omega))) rfl rfl rfl ⟨Nat.le_of_ble_eq_true rfl, Nat.le_of_ble_eq_true rfl⟩ rfl (Nat.le_of_ble_eq_true rfl) ⟨Nat.le_of_ble_eq_true rfl, Nat.le_of_ble_eq_true rfl⟩ (by decide +kernel) ?_
        refine l_if_ne (off := 7) (tgt := 27) (by decide +kernel) (by decide) (fun zc20 => ?_) (fun zc20 => ?_)
        · refine l_blk (pc' := 4) (loc' := [some (vR (7, 0, 0)), some (vI ((cntL S i4) + (0 : Int32))), some (vI ((nI i4) + (1 : Int32)))]) (st' := []) (B' := B) [(27, .iconst 0), (28, .iadd), (29, .istore_n 1), (30, .iinc 2 1), (33, .goto (-29))] (by decide +kernel) rfl rfl ?_
          exact l_sub (loc' := [some (vR (7, 0, 0)), some (vI (cntL S (i4 + 1))), some (vI (nI (i4 + 1)))]) ⟨Or.inr rfl, ⟨Or.inr (congrArg (fun z => some (vI z)) (cnt_n (by omega) (by omega) zc20)), ⟨Or.inr (congrArg (fun z => some (vI z)) (nI_1 _).symm), trivial⟩⟩⟩ (ih4 (i4 + 1) (by omega) (by omega))
        · refine l_blk (pc' := 4) (loc' := [some (vR (7, 0, 0)), some (vI ((cntL S i4) + (1 : Int32))), some (vI ((nI i4) + (1 : Int32)))]) (st' := []) (B' := B) [(23, .iconst 1), (24, .goto 4), (28, .iadd), (29, .istore_n 1), (30, .iinc 2 1), (33, .goto (-29))] (by decide +kernel) rfl rfl ?_
          exact l_sub (loc' := [some (vR (7, 0, 0)), some (vI (cntL S (i4 + 1))), some (vI (nI (i4 + 1)))]) ⟨Or.inr rfl, ⟨Or.inr (congrArg (fun z => some (vI z)) (cnt_y (by omega) (by omega) zc20)), ⟨Or.inr (congrArg (fun z => some (vI z)) (nI_1 _).symm), trivial⟩⟩⟩ (ih4 (i4 + 1) (by omega) (by omega))
  exact l_sub (loc' := [some (vR (7, 0, 0)), some (vI (cntL S 0)), some (vI (nI 0))]) ⟨Or.inr rfl, ⟨Or.inr rfl, ⟨Or.inr rfl, trivial⟩⟩⟩ (lp4 (sz S 2 + 1) 0 (by omega) (by omega))
