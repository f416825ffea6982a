/-! act() of the law -/
theorem eb_J {k : Nat} {S : HA} {Q : List HA × PV} (h : J k (S, Q)) : EB S := h.1.1.2.1
theorem ac_done {S : HA} {Hs : List HA} {P : PV} (h : sz S 2 = 0) : xdone S Hs P 0 = (-1, (S, (Hs, P))) := by
  rw [xdone, h, if_neg (not_not_intro (has_0 0))]
theorem ac_end {S : HA} {Hs : List HA} {P : PV} (h : S.2 6 = 0) : xend S Hs P = (-5, (S, (Hs, P))) := by
  rw [xend, if_pos h]
theorem ac_prop {S : HA} {Hs : List HA} {P : PV} (h : ¬ 2 ≤ sz S 2) : xpropose S Hs P 0 1 = (-1, (S, (Hs, P))) := by
  rcases (show sz S 2 = 0 ∨ sz S 2 = 1 by omega) with q | q
  · rw [xpropose, q, if_pos (has_0 0)]
  · rw [xpropose, q, if_neg (show ¬ hasT 0 1 = 0 by decide), if_neg (show ¬ ¬ hasT 1 1 = 0 by decide)]
theorem ac_ans {S : HA} {Hs : List HA} {P : PV} (h : sz S 3 = 0) : xanswer S Hs P 0 1 = (-1, (S, (Hs, P))) := by
  rw [xanswer, h, if_neg (not_not_intro (has_0 0))]
theorem is_hi {x : Int32} {t : Nat} (ht : t < 2 ^ 31) (h : 999 < t) : isInS (nI t) x 999 = 0 := by
  rw [isInS]
  split
  · rfl
  · rw [if_pos (show (999 : Int32) < nI t from (nI_ltI (a := 999) (by decide) ht).mpr h)]
theorem ac_aw2 {S : HA} {Hs : List HA} {P : PV} {r f t : Nat} (hr : r < sz S 0) (h8 : sz S 0 < 2 ^ 31) (hf : f < 2 ^ 31) (ht : t < 2 ^ 31) (h : ¬ t ≤ 999) : xaway S Hs P (nI r) (nI f) (nI t) = (-2, (S, (Hs, P))) := by
  rw [xaway, if_pos (has_lt hr h8)]
  by_cases q : isInS (nI f) 0 999 = 0
  · rw [if_pos q]
  · rw [if_neg q, if_neg (not_not_intro (is_hi ht (by omega)))]
theorem ac_aw1 {S : HA} {Hs : List HA} {P : PV} {k r w0 u t : Nat} (hJ : J k (S, (Hs, P))) (hr : r < sz S 0) (hw : S.2 5 = nI w0) (ht : t ≤ 999) (hu : w0 + u ≤ t) :
    ∃ SA, xaway S Hs P (nI r) (nI (w0 + u)) (nI t) = ((if u = 0 then 1 else 0), (SA, (keepL Hs S, P))) ∧ J (k + 1) (SA, (keepL Hs S, P)) ∧ SA.2 5 = S.2 5 ∧ sz SA 0 = sz S 0 ∧ bitS (awayS SA (nI r)) = (if u = 0 then 1 else 0) := by
  have hV : V S (720 * k) := hJ.1
  have h8 := hV.1.2.1.1
  have sN : ∀ j, sz (awN S r (nI (w0 + u)) (nI t)) j = sz S j := fun j => by rw [awN, sz_W, sz_W]
  have hv : bitS (awayS (awN S r (nI (w0 + u)) (nI t)) (nI r)) = (if u = 0 then 1 else 0) := by
    rw [awayS, cl1 (by omega), cl2 (by omega), show (awN S r (nI (w0 + u)) (nI t)).2 5 = nI w0 from hw, awN, ce_W_at, ce_W_c (by decide), ce_W_at]
    by_cases q : u = 0
    · rw [if_pos q, q, isIn_yes (by omega) (by omega) (by omega)]
      rfl
    · rw [if_neg q, isInS, if_pos ((nI_ltI (by omega) (by omega)).mpr (by omega))]
      rfl
  refine ⟨awN S r (nI (w0 + u)) (nI t), ?_, hJ.of ((v_away hV hr).le (by omega)) (sN 0) (sN 1) rfl, rfl, sN 0, hv⟩
  have i1 : isInS (nI (w0 + u)) 0 999 = 1 := isIn_yes (a := 0) (b := 999) (by decide) (by omega) (by omega)
  have i2 : isInS (nI t) (nI (w0 + u)) 999 = 1 := isIn_yes (a := w0 + u) (b := 999) (by decide) (by omega) (by omega)
  rw [xaway, if_pos (has_lt hr (by omega)), i1, i2, if_neg (by decide), if_pos (by decide), show wr S 0 (nI r) 1 (nI (w0 + u)) = Wc S 0 r 1 (nI (w0 + u)) from wc1 hr (by decide) (by omega), show wr (Wc S 0 r 1 (nI (w0 + u))) 0 (nI r) 2 (nI t) = awN S r (nI (w0 + u)) (nI t) from wc2 (by rw [sz_W]; exact hr) (by decide) (by rw [sz_W]; omega), hv]
  rfl
set_option maxHeartbeats 4000000 in
theorem c_L_act (l : Launch) {S : HA} {Hs : List HA} {P : PV} {k : Nat} {v w z : Int32} (hJ : J k (S, (Hs, P))) (hk : k ≤ 900)  : LCon l (RL_ 8 4 30 270) yL_act cL_act 9 [vR (7, 0, 0), vI v, vI w, vI z] ((S, (Hs, P)) : XS) (fun v X' => v = 1 ∧ J (k + 1) X') := by
  refine lcon_of (by decide +kernel) rfl (Nat.le_of_ble_eq_true rfl) (fun B => ?_)
  show GL l (RL_ 8 4 30 270) cL_act 9 _ (KM (fun v X' => v = 1 ∧ J (k + 1) X') 4 30) 0 [] B [some (vR (7, 0, 0)), some (vI v), some (vI w), some (vI z), none, none, none, none, none] [] ((S, (Hs, P)) : XS) 0 0
  generalize hK : KM (fun v X' => v = 1 ∧ J (k + 1) X') 4 30 = K
  have hV : V S (720 * k) := hJ.1
  have hB := hV.1.2.1
  obtain ⟨b0, b1, b2, b3⟩ := id hB
  obtain ⟨c0, c1⟩ : 1 ≤ sz S 0 ∧ 1 ≤ sz S 1 := hJ.2.1
  obtain ⟨w0, hwk, hw⟩ := hJ.2.2.1
  have hw : S.2 5 = nI w0 := hw
  refine l_blk (pc' := 2) (loc' := [some (vR (7, 0, 0)), some (vI v), some (vI w), some (vI z), none, none, none, none, none]) (st' := [vI (3 : Int32), vR (7, 0, 0)]) (B' := B) [(0, .aload_n 0), (1, .iconst 3)] (by decide +kernel) rfl rfl ?_
  refine l_callV (nI (sz S 2)) ((S, (Hs, P)) : XS) [vI (3 : Int32)] [] vl_RL_60 mi_X4_count (k_count l (r_count3)) rfl rfl rfl ⟨Nat.le_of_ble_eq_true rfl, Nat.le_of_ble_eq_true rfl⟩ rfl (Nat.le_of_ble_eq_true rfl) ⟨Nat.le_of_ble_eq_true rfl, Nat.le_of_ble_eq_true rfl⟩ (by decide +kernel) ?_
  refine l_blk (pc' := 10) (loc' := [some (vR (7, 0, 0)), some (vI v), some (vI w), some (vI z), some (vI (nI (sz S 2))), none, none, none, none]) (st' := [vI (1 : Int32), vR (7, 0, 0), vI w]) (B' := B) [(5, .istore 4), (7, .iload_n 2), (8, .aload_n 0), (9, .iconst 1)] (by decide +kernel) rfl rfl ?_
  refine l_callV (nI (sz S 0)) ((S, (Hs, P)) : XS) [vI (1 : Int32)] [vI w] vl_RL_60 mi_X4_count (k_count l (r_count1)) rfl rfl rfl ⟨Nat.le_of_ble_eq_true rfl, Nat.le_of_ble_eq_true rfl⟩ rfl (Nat.le_of_ble_eq_true rfl) ⟨Nat.le_of_ble_eq_true rfl, Nat.le_of_ble_eq_true rfl⟩ (by decide +kernel) ?_
  obtain ⟨u13, hu13, eu13, nu13⟩ := upV w (sz S 0) (by omega) (by omega)
  refine l_callS (nI u13) [vI w, vI (nI (sz S 0))] [] sl_RL_22 mi_L_up (k_up l nu13 eu13) rfl rfl ⟨Nat.le_of_ble_eq_true rfl, Nat.le_of_ble_eq_true rfl⟩ rfl (Nat.le_of_ble_eq_true rfl) ⟨Nat.le_of_ble_eq_true rfl, Nat.le_of_ble_eq_true rfl⟩ (by decide +kernel) ?_
  refine l_blk (pc' := 21) (loc' := [some (vR (7, 0, 0)), some (vI v), some (vI w), some (vI z), some (vI (nI (sz S 2))), some (vI (nI u13)), none, none, none]) (st' := [vI (2 : Int32), vR (7, 0, 0), vI z]) (B' := B) [(16, .istore 5), (18, .iload_n 3), (19, .aload_n 0), (20, .iconst 2)] (by decide +kernel) rfl rfl ?_
  refine l_callV (nI (sz S 1)) ((S, (Hs, P)) : XS) [vI (2 : Int32)] [vI z] vl_RL_60 mi_X4_count (k_count l (r_count2)) rfl rfl rfl ⟨Nat.le_of_ble_eq_true rfl, Nat.le_of_ble_eq_true rfl⟩ rfl (Nat.le_of_ble_eq_true rfl) ⟨Nat.le_of_ble_eq_true rfl, Nat.le_of_ble_eq_true rfl⟩ (by decide +kernel) ?_
  obtain ⟨u24, hu24, eu24, nu24⟩ := upV z (sz S 1) (by omega) (by omega)
  refine l_callS (nI u24) [vI z, vI (nI (sz S 1))] [] sl_RL_22 mi_L_up (k_up l nu24 eu24) rfl rfl ⟨Nat.le_of_ble_eq_true rfl, Nat.le_of_ble_eq_true rfl⟩ rfl (Nat.le_of_ble_eq_true rfl) ⟨Nat.le_of_ble_eq_true rfl, Nat.le_of_ble_eq_true rfl⟩ (by decide +kernel) ?_
  refine l_blk (pc' := 32) (loc' := [some (vR (7, 0, 0)), some (vI v), some (vI w), some (vI z), some (vI (nI (sz S 2))), some (vI (nI u13)), some (vI (nI u24)), none, none]) (st' := [vI (11 : Int32), vI v]) (B' := B) [(27, .istore 6), (29, .iload_n 1), (30, .bipush 11)] (by decide +kernel) rfl rfl ?_
  obtain ⟨u32, hu32, eu32, nu32⟩ := upV v 11 (by omega) (by omega)
  refine l_callS (nI u32) [vI v, vI (11 : Int32)] [] sl_RL_22 mi_L_up (k_up l nu32 eu32) rfl rfl ⟨Nat.le_of_ble_eq_true rfl, Nat.le_of_ble_eq_true rfl⟩ rfl (Nat.le_of_ble_eq_true rfl) ⟨Nat.le_of_ble_eq_true rfl, Nat.le_of_ble_eq_true rfl⟩ (by decide +kernel) ?_
  have ht88 : GL l (RL_ 8 4 30 270) cL_act 9 (some .boolean) K 88 [] (B) [some (vR (7, 0, 0)), some (vI v), some (vI w), some (vI z), some (vI (nI (sz S 2))), some (vI (nI u13)), some (vI (nI u24)), none, none] [] ((S, (Hs, P)) : XS) 0 0 := by
    refine l_blk (pc' := 89) (loc' := [some (vR (7, 0, 0)), some (vI v), some (vI w), some (vI z), some (vI (nI (sz S 2))), some (vI (nI u13)), some (vI (nI u24)), none, none]) (st' := [vR (7, 0, 0)]) (B' := B) [(88, .aload_n 0)] (by decide +kernel) rfl rfl ?_
    refine l_callM (R' := RL_ 7 2 14 224) [vR (7, 0, 0)] [] sl_RL_63 mi_L_plans (c_L_plans l hJ (by omega)) rfl ⟨Nat.le_of_ble_eq_true rfl, Nat.le_of_ble_eq_true rfl⟩ rfl (Nat.le_of_ble_eq_true rfl) ⟨Nat.le_of_ble_eq_true rfl, Nat.le_of_ble_eq_true rfl⟩ (by decide +kernel) (fun v89 X89 h89 => ?_)
    obtain ⟨S89, Hs89, P89⟩ := X89
    obtain ⟨rfl, hJ89⟩ := h89
    subst hK
    exact l_zret ⟨Nat.le_of_ble_eq_true rfl, Nat.le_of_ble_eq_true rfl⟩ (Or.inr rfl) (⟨rfl, hJ89⟩) (by decide +kernel)
  have ht93 : GL l (RL_ 8 4 30 270) cL_act 9 (some .boolean) K 93 [] (B) [some (vR (7, 0, 0)), some (vI v), some (vI w), some (vI z), some (vI (nI (sz S 2))), some (vI (nI u13)), some (vI (nI u24)), none, none] [] ((S, (Hs, P)) : XS) 0 0 := by
    refine l_blk (pc' := 95) (loc' := [some (vR (7, 0, 0)), some (vI v), some (vI w), some (vI z), some (vI (nI (sz S 2))), some (vI (nI u13)), some (vI (nI u24)), none, none]) (st' := [vI (nI (sz S 2))]) (B' := B) [(93, .iload 4)] (by decide +kernel) rfl rfl ?_
    refine l_if_ne (off := 20) (tgt := 115) (by decide +kernel) (by decide) (fun zc95 => ?_) (fun zc95 => ?_)
    · have h95 : 0 < sz S 2 := Nat.pos_of_ne_zero (fun q => zc95 ((z0 (by omega)).mpr q))
      refine l_blk (pc' := 119) (loc' := [some (vR (7, 0, 0)), some (vI v), some (vI w), some (vI z), some (vI (nI (sz S 2))), some (vI (nI u13)), some (vI (nI u24)), none, none]) (st' := [vI (nI (sz S 2)), vI w, vR (7, 0, 0)]) (B' := B) [(115, .aload_n 0), (116, .iload_n 2), (117, .iload 4)] (by decide +kernel) rfl rfl ?_
      obtain ⟨u119, hu119, eu119, nu119⟩ := upV w (sz S 2) (by omega) (by omega)
      refine l_callS (nI u119) [vI w, vI (nI (sz S 2))] [vR (7, 0, 0)] sl_RL_22 mi_L_up (k_up l nu119 eu119) rfl rfl ⟨Nat.le_of_ble_eq_true rfl, Nat.le_of_ble_eq_true rfl⟩ rfl (Nat.le_of_ble_eq_true rfl) ⟨Nat.le_of_ble_eq_true rfl, Nat.le_of_ble_eq_true rfl⟩ (by decide +kernel) ?_
      refine l_callM (R' := RL_ 7 0 0 224) [vR (7, 0, 0), vI (nI u119)] [] sl_RL_69 mi_L_does (c_L_does l hJ hu119) rfl ⟨Nat.le_of_ble_eq_true rfl, Nat.le_of_ble_eq_true rfl⟩ rfl (Nat.le_of_ble_eq_true rfl) ⟨Nat.le_of_ble_eq_true rfl, Nat.le_of_ble_eq_true rfl⟩ (by decide +kernel) (fun v122 X122 h122 => ?_)
      obtain ⟨S122, Hs122, P122⟩ := X122
      obtain ⟨rfl, hJ122⟩ := h122
      subst hK
      exact l_zret ⟨Nat.le_of_ble_eq_true rfl, Nat.le_of_ble_eq_true rfl⟩ (Or.inr rfl) (⟨rfl, hJ122⟩) (by decide +kernel)
    · have h95 : sz S 2 = 0 := (z0 (by omega)).mp zc95
      refine l_blk (pc' := 100) (loc' := [some (vR (7, 0, 0)), some (vI v), some (vI w), some (vI z), some (vI (nI (sz S 2))), some (vI (nI u13)), some (vI (nI u24)), none, none]) (st' := [vI (0 : Int32), vR (7, 0, 0)]) (B' := B) [(98, .aload_n 0), (99, .iconst 0)] (by decide +kernel) rfl rfl ?_
      refine l_callV (-1 : Int32) ((S, (Hs, P)) : XS) [vI (0 : Int32)] [] vl_RL_66 mi_X4_done (k_done l (ac_done h95)) rfl rfl rfl ⟨Nat.le_of_ble_eq_true rfl, Nat.le_of_ble_eq_true rfl⟩ rfl (Nat.le_of_ble_eq_true rfl) ⟨Nat.le_of_ble_eq_true rfl, Nat.le_of_ble_eq_true rfl⟩ (by decide +kernel) ?_
      refine l_blk (pc' := 104) (loc' := [some (vR (7, 0, 0)), some (vI v), some (vI w), some (vI z), some (vI (nI (sz S 2))), some (vI (nI u13)), some (vI (nI u24)), none, none]) (st' := [vI (-1 : Int32), vI (-1 : Int32)]) (B' := B) [(103, .iconst (-1))] (by decide +kernel) rfl rfl ?_
      refine l_icmp_ne (off := 7) (tgt := 111) (by decide +kernel) (by decide) (fun zc104 => ?_) (fun zc104 => ?_)
      · exact absurd zc104 (by decide)
      · refine l_blk (pc' := 125) (loc' := [some (vR (7, 0, 0)), some (vI v), some (vI w), some (vI z), some (vI (nI (sz S 2))), some (vI (nI u13)), some (vI (nI u24)), none, none]) (st' := [vI (1 : Int32)]) (B' := B) [(107, .iconst 1), (108, .goto 17)] (by decide +kernel) rfl rfl ?_
        subst hK
        exact l_zret ⟨Nat.le_of_ble_eq_true rfl, Nat.le_of_ble_eq_true rfl⟩ (Or.inr rfl) (⟨rfl, hJ.up⟩) (by decide +kernel)
  have ht126 : GL l (RL_ 8 4 30 270) cL_act 9 (some .boolean) K 126 [] (B) [some (vR (7, 0, 0)), some (vI v), some (vI w), some (vI z), some (vI (nI (sz S 2))), some (vI (nI u13)), some (vI (nI u24)), none, none] [] ((S, (Hs, P)) : XS) 0 0 := by
    refine l_blk (pc' := 129) (loc' := [some (vR (7, 0, 0)), some (vI v), some (vI w), some (vI z), some (vI (nI (sz S 2))), some (vI (nI u13)), some (vI (nI u24)), none, none]) (st' := [vI (8 : Int32), vR (7, 0, 0)]) (B' := B) [(126, .aload_n 0), (127, .bipush 8)] (by decide +kernel) rfl rfl ?_
    refine l_callV (bitS (S.2 6)) ((S, (Hs, P)) : XS) [vI (8 : Int32)] [] vl_RL_60 mi_X4_count (k_count l (r_count8)) rfl rfl rfl ⟨Nat.le_of_ble_eq_true rfl, Nat.le_of_ble_eq_true rfl⟩ rfl (Nat.le_of_ble_eq_true rfl) ⟨Nat.le_of_ble_eq_true rfl, Nat.le_of_ble_eq_true rfl⟩ (by decide +kernel) ?_
    refine l_if_ne (off := 20) (tgt := 152) (by decide +kernel) (by decide) (fun zc132 => ?_) (fun zc132 => ?_)
    · have h132 : ¬ S.2 6 = 0 := fun q => zc132 (bit_z.mpr q)
      refine l_blk (pc' := 153) (loc' := [some (vR (7, 0, 0)), some (vI v), some (vI w), some (vI z), some (vI (nI (sz S 2))), some (vI (nI u13)), some (vI (nI u24)), none, none]) (st' := [vR (7, 0, 0)]) (B' := B) [(152, .aload_n 0)] (by decide +kernel) rfl rfl ?_
      refine l_callM (R' := RL_ 7 4 30 224) [vR (7, 0, 0)] [] sl_RL_76 mi_L_ends (c_L_ends l hJ hk h132) rfl ⟨Nat.le_of_ble_eq_true rfl, Nat.le_of_ble_eq_true rfl⟩ rfl (Nat.le_of_ble_eq_true rfl) ⟨Nat.le_of_ble_eq_true rfl, Nat.le_of_ble_eq_true rfl⟩ (by decide +kernel) (fun v153 X153 h153 => ?_)
      obtain ⟨S153, Hs153, P153⟩ := X153
      obtain ⟨rfl, hJ153⟩ := h153
      subst hK
      exact l_zret ⟨Nat.le_of_ble_eq_true rfl, Nat.le_of_ble_eq_true rfl⟩ (Or.inr rfl) (⟨rfl, hJ153⟩) (by decide +kernel)
    · have h132 : S.2 6 = 0 := bit_z.mp zc132
      refine l_blk (pc' := 136) (loc' := [some (vR (7, 0, 0)), some (vI v), some (vI w), some (vI z), some (vI (nI (sz S 2))), some (vI (nI u13)), some (vI (nI u24)), none, none]) (st' := [vR (7, 0, 0)]) (B' := B) [(135, .aload_n 0)] (by decide +kernel) rfl rfl ?_
      refine l_callV (-5 : Int32) ((S, (Hs, P)) : XS) [] [] vl_RL_72 mi_X4_end (k_end l (ac_end h132)) rfl rfl rfl ⟨Nat.le_of_ble_eq_true rfl, Nat.le_of_ble_eq_true rfl⟩ rfl (Nat.le_of_ble_eq_true rfl) ⟨Nat.le_of_ble_eq_true rfl, Nat.le_of_ble_eq_true rfl⟩ (by decide +kernel) ?_
      refine l_blk (pc' := 141) (loc' := [some (vR (7, 0, 0)), some (vI v), some (vI w), some (vI z), some (vI (nI (sz S 2))), some (vI (nI u13)), some (vI (nI u24)), none, none]) (st' := [vI (-5 : Int32), vI (-5 : Int32)]) (B' := B) [(139, .bipush (-5))] (by decide +kernel) rfl rfl ?_
      refine l_icmp_ne (off := 7) (tgt := 148) (by decide +kernel) (by decide) (fun zc141 => ?_) (fun zc141 => ?_)
      · exact absurd zc141 (by decide)
      · refine l_blk (pc' := 156) (loc' := [some (vR (7, 0, 0)), some (vI v), some (vI w), some (vI z), some (vI (nI (sz S 2))), some (vI (nI u13)), some (vI (nI u24)), none, none]) (st' := [vI (1 : Int32)]) (B' := B) [(144, .iconst 1), (145, .goto 11)] (by decide +kernel) rfl rfl ?_
        subst hK
        exact l_zret ⟨Nat.le_of_ble_eq_true rfl, Nat.le_of_ble_eq_true rfl⟩ (Or.inr rfl) (⟨rfl, hJ.up⟩) (by decide +kernel)
  have ht157 : GL l (RL_ 8 4 30 270) cL_act 9 (some .boolean) K 157 [] (B) [some (vR (7, 0, 0)), some (vI v), some (vI w), some (vI z), some (vI (nI (sz S 2))), some (vI (nI u13)), some (vI (nI u24)), none, none] [] ((S, (Hs, P)) : XS) 0 0 := by
    refine l_blk (pc' := 162) (loc' := [some (vR (7, 0, 0)), some (vI v), some (vI w), some (vI z), some (vI (nI (sz S 2))), some (vI (nI u13)), some (vI (nI u24)), none, none]) (st' := [vI (nI u24), vI (nI u13), vR (7, 0, 0)]) (B' := B) [(157, .aload_n 0), (158, .iload 5), (160, .iload 6)] (by decide +kernel) rfl rfl ?_
    refine l_callM (R' := RL_ 7 0 0 224) [vR (7, 0, 0), vI (nI u13), vI (nI u24)] [] sl_RL_79 mi_L_extra (c_L_extra l hJ (by omega) hu13 hu24) rfl ⟨Nat.le_of_ble_eq_true rfl, Nat.le_of_ble_eq_true rfl⟩ rfl (Nat.le_of_ble_eq_true rfl) ⟨Nat.le_of_ble_eq_true rfl, Nat.le_of_ble_eq_true rfl⟩ (by decide +kernel) (fun v162 X162 h162 => ?_)
    obtain ⟨S162, Hs162, P162⟩ := X162
    obtain ⟨rfl, hJ162⟩ := h162
    subst hK
    exact l_zret ⟨Nat.le_of_ble_eq_true rfl, Nat.le_of_ble_eq_true rfl⟩ (Or.inr rfl) (⟨rfl, hJ162⟩) (by decide +kernel)
  have ht166 : GL l (RL_ 8 4 30 270) cL_act 9 (some .boolean) K 166 [] (B) [some (vR (7, 0, 0)), some (vI v), some (vI w), some (vI z), some (vI (nI (sz S 2))), some (vI (nI u13)), some (vI (nI u24)), none, none] [] ((S, (Hs, P)) : XS) 0 0 := by
    refine l_blk (pc' := 169) (loc' := [some (vR (7, 0, 0)), some (vI v), some (vI w), some (vI z), some (vI (nI (sz S 2))), some (vI (nI u13)), some (vI (nI u24)), none, none]) (st' := [vI (2 : Int32), vI (nI (sz S 2))]) (B' := B) [(166, .iload 4), (168, .iconst 2)] (by decide +kernel) rfl rfl ?_
    refine l_icmp_ge (off := 21) (tgt := 190) (by decide +kernel) (by decide) (fun zc169 => ?_) (fun zc169 => ?_)
    · have h169 : 2 ≤ sz S 2 := (nI_leI (a := 2) (by decide) (by omega)).mp zc169
      refine l_blk (pc' := 194) (loc' := [some (vR (7, 0, 0)), some (vI v), some (vI w), some (vI z), some (vI (nI (sz S 2))), some (vI (nI u13)), some (vI (nI u24)), none, none]) (st' := [vI (nI (sz S 2)), vI w, vR (7, 0, 0)]) (B' := B) [(190, .aload_n 0), (191, .iload_n 2), (192, .iload 4)] (by decide +kernel) rfl rfl ?_
      obtain ⟨u194, hu194, eu194, nu194⟩ := upV w (sz S 2) (by omega) (by omega)
      refine l_callS (nI u194) [vI w, vI (nI (sz S 2))] [vR (7, 0, 0)] sl_RL_22 mi_L_up (k_up l nu194 eu194) rfl rfl ⟨Nat.le_of_ble_eq_true rfl, Nat.le_of_ble_eq_true rfl⟩ rfl (Nat.le_of_ble_eq_true rfl) ⟨Nat.le_of_ble_eq_true rfl, Nat.le_of_ble_eq_true rfl⟩ (by decide +kernel) ?_
      refine l_blk (pc' := 200) (loc' := [some (vR (7, 0, 0)), some (vI v), some (vI w), some (vI z), some (vI (nI (sz S 2))), some (vI (nI u13)), some (vI (nI u24)), none, none]) (st' := [vI (nI (sz S 2)), vI z, vI (nI u194), vR (7, 0, 0)]) (B' := B) [(197, .iload_n 3), (198, .iload 4)] (by decide +kernel) rfl rfl ?_
      obtain ⟨u200, hu200, eu200, nu200⟩ := upV z (sz S 2) (by omega) (by omega)
      refine l_callS (nI u200) [vI z, vI (nI (sz S 2))] [vI (nI u194), vR (7, 0, 0)] sl_RL_22 mi_L_up (k_up l nu200 eu200) rfl rfl ⟨Nat.le_of_ble_eq_true rfl, Nat.le_of_ble_eq_true rfl⟩ rfl (Nat.le_of_ble_eq_true rfl) ⟨Nat.le_of_ble_eq_true rfl, Nat.le_of_ble_eq_true rfl⟩ (by decide +kernel) ?_
      refine l_callM (R' := RL_ 7 0 0 224) [vR (7, 0, 0), vI (nI u194), vI (nI u200)] [] sl_RL_86 mi_L_proposes (c_L_proposes l hJ hu194 hu200) rfl ⟨Nat.le_of_ble_eq_true rfl, Nat.le_of_ble_eq_true rfl⟩ rfl (Nat.le_of_ble_eq_true rfl) ⟨Nat.le_of_ble_eq_true rfl, Nat.le_of_ble_eq_true rfl⟩ (by decide +kernel) (fun v203 X203 h203 => ?_)
      obtain ⟨S203, Hs203, P203⟩ := X203
      obtain ⟨rfl, hJ203⟩ := h203
      subst hK
      exact l_zret ⟨Nat.le_of_ble_eq_true rfl, Nat.le_of_ble_eq_true rfl⟩ (Or.inr rfl) (⟨rfl, hJ203⟩) (by decide +kernel)
    · have h169 : ¬ 2 ≤ sz S 2 := fun q => zc169 ((nI_leI (a := 2) (by decide) (by omega)).mpr q)
      refine l_blk (pc' := 175) (loc' := [some (vR (7, 0, 0)), some (vI v), some (vI w), some (vI z), some (vI (nI (sz S 2))), some (vI (nI u13)), some (vI (nI u24)), none, none]) (st' := [vI (1 : Int32), vI (0 : Int32), vR (7, 0, 0)]) (B' := B) [(172, .aload_n 0), (173, .iconst 0), (174, .iconst 1)] (by decide +kernel) rfl rfl ?_
      refine l_callV (-1 : Int32) ((S, (Hs, P)) : XS) [vI (0 : Int32), vI (1 : Int32)] [] vl_RL_83 mi_X4_propose (k_propose l (ac_prop h169)) rfl rfl rfl ⟨Nat.le_of_ble_eq_true rfl, Nat.le_of_ble_eq_true rfl⟩ rfl (Nat.le_of_ble_eq_true rfl) ⟨Nat.le_of_ble_eq_true rfl, Nat.le_of_ble_eq_true rfl⟩ (by decide +kernel) ?_
      refine l_blk (pc' := 179) (loc' := [some (vR (7, 0, 0)), some (vI v), some (vI w), some (vI z), some (vI (nI (sz S 2))), some (vI (nI u13)), some (vI (nI u24)), none, none]) (st' := [vI (-1 : Int32), vI (-1 : Int32)]) (B' := B) [(178, .iconst (-1))] (by decide +kernel) rfl rfl ?_
      refine l_icmp_ne (off := 7) (tgt := 186) (by decide +kernel) (by decide) (fun zc179 => ?_) (fun zc179 => ?_)
      · exact absurd zc179 (by decide)
      · refine l_blk (pc' := 206) (loc' := [some (vR (7, 0, 0)), some (vI v), some (vI w), some (vI z), some (vI (nI (sz S 2))), some (vI (nI u13)), some (vI (nI u24)), none, none]) (st' := [vI (1 : Int32)]) (B' := B) [(182, .iconst 1), (183, .goto 23)] (by decide +kernel) rfl rfl ?_
        subst hK
        exact l_zret ⟨Nat.le_of_ble_eq_true rfl, Nat.le_of_ble_eq_true rfl⟩ (Or.inr rfl) (⟨rfl, hJ.up⟩) (by decide +kernel)
  have ht207 : GL l (RL_ 8 4 30 270) cL_act 9 (some .boolean) K 207 [] (B) [some (vR (7, 0, 0)), some (vI v), some (vI w), some (vI z), some (vI (nI (sz S 2))), some (vI (nI u13)), some (vI (nI u24)), none, none] [] ((S, (Hs, P)) : XS) 0 0 := by
    refine l_blk (pc' := 210) (loc' := [some (vR (7, 0, 0)), some (vI v), some (vI w), some (vI z), some (vI (nI (sz S 2))), some (vI (nI u13)), some (vI (nI u24)), none, none]) (st' := [vI (7 : Int32), vR (7, 0, 0)]) (B' := B) [(207, .aload_n 0), (208, .bipush 7)] (by decide +kernel) rfl rfl ?_
    refine l_callV (nI (sz S 3)) ((S, (Hs, P)) : XS) [vI (7 : Int32)] [] vl_RL_60 mi_X4_count (k_count l (r_count7)) rfl rfl rfl ⟨Nat.le_of_ble_eq_true rfl, Nat.le_of_ble_eq_true rfl⟩ rfl (Nat.le_of_ble_eq_true rfl) ⟨Nat.le_of_ble_eq_true rfl, Nat.le_of_ble_eq_true rfl⟩ (by decide +kernel) ?_
    refine l_if_ne (off := 21) (tgt := 234) (by decide +kernel) (by decide) (fun zc213 => ?_) (fun zc213 => ?_)
    · have h213 : 0 < sz S 3 := Nat.pos_of_ne_zero (fun q => zc213 ((z0 (by omega)).mpr q))
      refine l_blk (pc' := 239) (loc' := [some (vR (7, 0, 0)), some (vI v), some (vI w), some (vI z), some (vI (nI (sz S 2))), some (vI (nI u13)), some (vI (nI u24)), none, none]) (st' := [vI (7 : Int32), vR (7, 0, 0), vI w, vR (7, 0, 0)]) (B' := B) [(234, .aload_n 0), (235, .iload_n 2), (236, .aload_n 0), (237, .bipush 7)] (by decide +kernel) rfl rfl ?_
      refine l_callV (nI (sz S 3)) ((S, (Hs, P)) : XS) [vI (7 : Int32)] [vI w, vR (7, 0, 0)] vl_RL_60 mi_X4_count (k_count l (r_count7)) rfl rfl rfl ⟨Nat.le_of_ble_eq_true rfl, Nat.le_of_ble_eq_true rfl⟩ rfl (Nat.le_of_ble_eq_true rfl) ⟨Nat.le_of_ble_eq_true rfl, Nat.le_of_ble_eq_true rfl⟩ (by decide +kernel) ?_
      obtain ⟨u242, hu242, eu242, nu242⟩ := upV w (sz S 3) (by omega) (by omega)
      refine l_callS (nI u242) [vI w, vI (nI (sz S 3))] [vR (7, 0, 0)] sl_RL_22 mi_L_up (k_up l nu242 eu242) rfl rfl ⟨Nat.le_of_ble_eq_true rfl, Nat.le_of_ble_eq_true rfl⟩ rfl (Nat.le_of_ble_eq_true rfl) ⟨Nat.le_of_ble_eq_true rfl, Nat.le_of_ble_eq_true rfl⟩ (by decide +kernel) ?_
      refine l_blk (pc' := 247) (loc' := [some (vR (7, 0, 0)), some (vI v), some (vI w), some (vI z), some (vI (nI (sz S 2))), some (vI (nI u13)), some (vI (nI u24)), none, none]) (st' := [vI (2 : Int32), vI z, vI (nI u242), vR (7, 0, 0)]) (B' := B) [(245, .iload_n 3), (246, .iconst 2)] (by decide +kernel) rfl rfl ?_
      obtain ⟨u247, hu247, eu247, nu247⟩ := upV z 2 (by omega) (by omega)
      refine l_callS (nI u247) [vI z, vI (2 : Int32)] [vI (nI u242), vR (7, 0, 0)] sl_RL_22 mi_L_up (k_up l nu247 eu247) rfl rfl ⟨Nat.le_of_ble_eq_true rfl, Nat.le_of_ble_eq_true rfl⟩ rfl (Nat.le_of_ble_eq_true rfl) ⟨Nat.le_of_ble_eq_true rfl, Nat.le_of_ble_eq_true rfl⟩ (by decide +kernel) ?_
      rcases (show u247 = 0 ∨ u247 = 1 by omega) with rfl | rfl
      · refine l_callM (R' := RL_ 7 1 12 224) [vR (7, 0, 0), vI (nI u242), vI (0 : Int32)] [] sl_RL_92 mi_L_answers (c_L_answers0 l hJ hu242) rfl ⟨Nat.le_of_ble_eq_true rfl, Nat.le_of_ble_eq_true rfl⟩ rfl (Nat.le_of_ble_eq_true rfl) ⟨Nat.le_of_ble_eq_true rfl, Nat.le_of_ble_eq_true rfl⟩ (by decide +kernel) (fun v250 X250 h250 => ?_)
        obtain ⟨S250, Hs250, P250⟩ := X250
        obtain ⟨rfl, hJ250⟩ := h250
        subst hK
        exact l_zret ⟨Nat.le_of_ble_eq_true rfl, Nat.le_of_ble_eq_true rfl⟩ (Or.inr rfl) (⟨rfl, hJ250⟩) (by decide +kernel)
      · refine l_callM (R' := RL_ 7 1 12 224) [vR (7, 0, 0), vI (nI u242), vI (1 : Int32)] [] sl_RL_92 mi_L_answers (c_L_answers1 l hJ hu242) rfl ⟨Nat.le_of_ble_eq_true rfl, Nat.le_of_ble_eq_true rfl⟩ rfl (Nat.le_of_ble_eq_true rfl) ⟨Nat.le_of_ble_eq_true rfl, Nat.le_of_ble_eq_true rfl⟩ (by decide +kernel) (fun v250 X250 h250 => ?_)
        obtain ⟨S250, Hs250, P250⟩ := X250
        obtain ⟨rfl, hJ250⟩ := h250
        subst hK
        exact l_zret ⟨Nat.le_of_ble_eq_true rfl, Nat.le_of_ble_eq_true rfl⟩ (Or.inr rfl) (⟨rfl, hJ250⟩) (by decide +kernel)
    · have h213 : sz S 3 = 0 := (z0 (by omega)).mp zc213
      refine l_blk (pc' := 219) (loc' := [some (vR (7, 0, 0)), some (vI v), some (vI w), some (vI z), some (vI (nI (sz S 2))), some (vI (nI u13)), some (vI (nI u24)), none, none]) (st' := [vI (1 : Int32), vI (0 : Int32), vR (7, 0, 0)]) (B' := B) [(216, .aload_n 0), (217, .iconst 0), (218, .iconst 1)] (by decide +kernel) rfl rfl ?_
      refine l_callV (-1 : Int32) ((S, (Hs, P)) : XS) [vI (0 : Int32), vI (1 : Int32)] [] vl_RL_89 mi_X4_answer (k_answer l (ac_ans h213)) rfl rfl rfl ⟨Nat.le_of_ble_eq_true rfl, Nat.le_of_ble_eq_true rfl⟩ rfl (Nat.le_of_ble_eq_true rfl) ⟨Nat.le_of_ble_eq_true rfl, Nat.le_of_ble_eq_true rfl⟩ (by decide +kernel) ?_
      refine l_blk (pc' := 223) (loc' := [some (vR (7, 0, 0)), some (vI v), some (vI w), some (vI z), some (vI (nI (sz S 2))), some (vI (nI u13)), some (vI (nI u24)), none, none]) (st' := [vI (-1 : Int32), vI (-1 : Int32)]) (B' := B) [(222, .iconst (-1))] (by decide +kernel) rfl rfl ?_
      refine l_icmp_ne (off := 7) (tgt := 230) (by decide +kernel) (by decide) (fun zc223 => ?_) (fun zc223 => ?_)
      · exact absurd zc223 (by decide)
      · refine l_blk (pc' := 253) (loc' := [some (vR (7, 0, 0)), some (vI v), some (vI w), some (vI z), some (vI (nI (sz S 2))), some (vI (nI u13)), some (vI (nI u24)), none, none]) (st' := [vI (1 : Int32)]) (B' := B) [(226, .iconst 1), (227, .goto 26)] (by decide +kernel) rfl rfl ?_
        subst hK
        exact l_zret ⟨Nat.le_of_ble_eq_true rfl, Nat.le_of_ble_eq_true rfl⟩ (Or.inr rfl) (⟨rfl, hJ.up⟩) (by decide +kernel)
  have ht254 : GL l (RL_ 8 4 30 270) cL_act 9 (some .boolean) K 254 [] (B) [some (vR (7, 0, 0)), some (vI v), some (vI w), some (vI z), some (vI (nI (sz S 2))), some (vI (nI u13)), some (vI (nI u24)), none, none] [] ((S, (Hs, P)) : XS) 0 0 := by
    refine l_blk (pc' := 256) (loc' := [some (vR (7, 0, 0)), some (vI v), some (vI w), some (vI z), some (vI (nI (sz S 2))), some (vI (nI u13)), some (vI (nI u24)), none, none]) (st' := [vI (0 : Int32), vR (7, 0, 0)]) (B' := B) [(254, .aload_n 0), (255, .iconst 0)] (by decide +kernel) rfl rfl ?_
    refine l_callV (nI w0) ((S, (Hs, P)) : XS) [vI (0 : Int32)] [] vl_RL_60 mi_X4_count (k_count l ((r_count0).trans (hw))) rfl rfl rfl ⟨Nat.le_of_ble_eq_true rfl, Nat.le_of_ble_eq_true rfl⟩ rfl (Nat.le_of_ble_eq_true rfl) ⟨Nat.le_of_ble_eq_true rfl, Nat.le_of_ble_eq_true rfl⟩ (by decide +kernel) ?_
    refine l_blk (pc' := 263) (loc' := [some (vR (7, 0, 0)), some (vI v), some (vI w), some (vI z), some (vI (nI (sz S 2))), some (vI (nI u13)), some (vI (nI u24)), none, none]) (st' := [vI (3 : Int32), vI (w >>> ((4 : Int32) &&& 31)), vI (nI w0)]) (B' := B) [(259, .iload_n 2), (260, .iconst 4), (261, .ishr), (262, .iconst 3)] (by decide +kernel) rfl rfl ?_
    obtain ⟨u263, hu263, eu263, nu263⟩ := upV (w >>> ((4 : Int32) &&& 31)) 3 (by omega) (by omega)
    refine l_callS (nI u263) [vI (w >>> ((4 : Int32) &&& 31)), vI (3 : Int32)] [vI (nI w0)] sl_RL_22 mi_L_up (k_up l nu263 eu263) rfl rfl ⟨Nat.le_of_ble_eq_true rfl, Nat.le_of_ble_eq_true rfl⟩ rfl (Nat.le_of_ble_eq_true rfl) ⟨Nat.le_of_ble_eq_true rfl, Nat.le_of_ble_eq_true rfl⟩ (by decide +kernel) ?_
    refine l_blk (pc' := 267) (loc' := [some (vR (7, 0, 0)), some (vI v), some (vI w), some (vI z), some (vI (nI (sz S 2))), some (vI (nI u13)), some (vI (nI u24)), none, none]) (st' := [vI ((nI w0) + (nI u263))]) (B' := B) [(266, .iadd)] (by decide +kernel) rfl rfl ?_
    refine l_eq (st' := [vI (nI (w0 + u263))]) rfl rfl (congrArg (fun z => [vI z]) (nI_add _ _)) rfl rfl ?_
    refine l_blk (pc' := 275) (loc' := [some (vR (7, 0, 0)), some (vI v), some (vI w), some (vI z), some (vI (nI (sz S 2))), some (vI (nI u13)), some (vI (nI u24)), some (vI (nI (w0 + u263))), none]) (st' := [vI (3 : Int32), vI (z >>> ((3 : Int32) &&& 31)), vI (nI (w0 + u263))]) (B' := B) [(267, .istore 7), (269, .iload 7), (271, .iload_n 3), (272, .iconst 3), (273, .ishr), (274, .iconst 3)] (by decide +kernel) rfl rfl ?_
    obtain ⟨u275, hu275, eu275, nu275⟩ := upV (z >>> ((3 : Int32) &&& 31)) 3 (by omega) (by omega)
    refine l_callS (nI u275) [vI (z >>> ((3 : Int32) &&& 31)), vI (3 : Int32)] [vI (nI (w0 + u263))] sl_RL_22 mi_L_up (k_up l nu275 eu275) rfl rfl ⟨Nat.le_of_ble_eq_true rfl, Nat.le_of_ble_eq_true rfl⟩ rfl (Nat.le_of_ble_eq_true rfl) ⟨Nat.le_of_ble_eq_true rfl, Nat.le_of_ble_eq_true rfl⟩ (by decide +kernel) ?_
    refine l_blk (pc' := 279) (loc' := [some (vR (7, 0, 0)), some (vI v), some (vI w), some (vI z), some (vI (nI (sz S 2))), some (vI (nI u13)), some (vI (nI u24)), some (vI (nI (w0 + u263))), none]) (st' := [vI ((nI (w0 + u263)) + (nI u275))]) (B' := B) [(278, .iadd)] (by decide +kernel) rfl rfl ?_
    refine l_eq (st' := [vI (nI (w0 + u263 + u275))]) rfl rfl (congrArg (fun z => [vI z]) (nI_add _ _)) rfl rfl ?_
    refine l_blk (pc' := 286) (loc' := [some (vR (7, 0, 0)), some (vI v), some (vI w), some (vI z), some (vI (nI (sz S 2))), some (vI (nI u13)), some (vI (nI u24)), some (vI (nI (w0 + u263))), some (vI (nI (w0 + u263 + u275)))]) (st' := [vI (999 : Int32), vI (nI (w0 + u263 + u275))]) (B' := B) [(279, .istore 8), (281, .iload 8), (283, .sipush 999)] (by decide +kernel) rfl rfl ?_
    refine l_icmp_le (off := 24) (tgt := 310) (by decide +kernel) (by decide) (fun zc286 => ?_) (fun zc286 => ?_)
    · have h286 : w0 + u263 + u275 ≤ 999 := (nI_leI (b := 999) (by omega) (by decide)).mp zc286
      by_cases hu : u263 = 0
      · refine l_blk (pc' := 317) (loc' := [some (vR (7, 0, 0)), some (vI v), some (vI w), some (vI z), some (vI (nI (sz S 2))), some (vI (nI u13)), some (vI (nI u24)), some (vI (nI (w0 + u263))), some (vI (nI (w0 + u263 + u275)))]) (st' := [vI (nI (w0 + u263 + u275)), vI (nI (w0 + u263)), vI (nI u13), vR (7, 0, 0)]) (B' := B) [(310, .aload_n 0), (311, .iload 5), (313, .iload 7), (315, .iload 8)] (by decide +kernel) rfl rfl ?_
        obtain ⟨SA, hxa, hJa, f5, sA, awA⟩ := ac_aw1 (Hs := Hs) (P := P) (u := u263) (t := w0 + u263 + u275) hJ hu13 hw h286 (by omega)
        rw [if_pos hu] at hxa awA
        have hBA : EB SA := eb_J hJa
        refine l_callV (1 : Int32) ((SA, (keepL Hs S, P)) : XS) [vI (nI u13), vI (nI (w0 + u263)), vI (nI (w0 + u263 + u275))] [] vl_RL_95 mi_X4_away (k_away l (hxa)) rfl rfl rfl ⟨Nat.le_of_ble_eq_true rfl, Nat.le_of_ble_eq_true rfl⟩ rfl (Nat.le_of_ble_eq_true rfl) ⟨Nat.le_of_ble_eq_true rfl, Nat.le_of_ble_eq_true rfl⟩ (by decide +kernel) ?_
        refine l_blk (pc' := 324) (loc' := [some (vR (7, 0, 0)), some (vI v), some (vI w), some (vI z), some (vI (nI (sz S 2))), some (vI (nI u13)), some (vI (nI u24)), some (vI (nI (w0 + u263))), some (vI (nI (w0 + u263 + u275)))]) (st' := [vI (0 : Int32), vR (7, 0, 0), vI (nI (w0 + u263)), vI (1 : Int32)]) (B' := B) [(320, .iload 7), (322, .aload_n 0), (323, .iconst 0)] (by decide +kernel) rfl rfl ?_
        refine l_callV (nI w0) ((SA, (keepL Hs S, P)) : XS) [vI (0 : Int32)] [vI (nI (w0 + u263)), vI (1 : Int32)] vl_RL_60 mi_X4_count (k_count l ((r_count0).trans (f5.trans hw))) rfl rfl rfl ⟨Nat.le_of_ble_eq_true rfl, Nat.le_of_ble_eq_true rfl⟩ rfl (Nat.le_of_ble_eq_true rfl) ⟨Nat.le_of_ble_eq_true rfl, Nat.le_of_ble_eq_true rfl⟩ (by decide +kernel) ?_
        refine l_icmp_ne (off := 7) (tgt := 334) (by decide +kernel) (by decide) (fun zc327 => ?_) (fun zc327 => ?_)
        · exact absurd zc327 (not_not_intro (by rw [hu]; rfl))
        · refine l_blk (pc' := 335) (loc' := [some (vR (7, 0, 0)), some (vI v), some (vI w), some (vI z), some (vI (nI (sz S 2))), some (vI (nI u13)), some (vI (nI u24)), some (vI (nI (w0 + u263))), some (vI (nI (w0 + u263 + u275)))]) (st' := [vI (1 : Int32), vI (1 : Int32)]) (B' := B) [(330, .iconst 1), (331, .goto 4)] (by decide +kernel) rfl rfl ?_
          refine l_icmp_ne (off := 33) (tgt := 368) (by decide +kernel) (by decide) (fun zc335 => ?_) (fun zc335 => ?_)
          · exact absurd zc335 (by decide)
          · refine l_blk (pc' := 343) (loc' := [some (vR (7, 0, 0)), some (vI v), some (vI w), some (vI z), some (vI (nI (sz S 2))), some (vI (nI u13)), some (vI (nI u24)), some (vI (nI (w0 + u263))), some (vI (nI (w0 + u263 + u275)))]) (st' := [vI (8 : Int32), vI (nI u13), vR (7, 0, 0)]) (B' := B) [(338, .aload_n 0), (339, .iload 5), (341, .bipush 8)] (by decide +kernel) rfl rfl ?_
            refine l_callV (1 : Int32) ((SA, (keepL Hs S, P)) : XS) [vI (nI u13), vI (8 : Int32)] [] vl_RL_98 mi_X4_about (k_about l ((r_about8 hBA (show u13 < sz SA 0 by omega)).trans (awA))) rfl rfl rfl ⟨Nat.le_of_ble_eq_true rfl, Nat.le_of_ble_eq_true rfl⟩ rfl (Nat.le_of_ble_eq_true rfl) ⟨Nat.le_of_ble_eq_true rfl, Nat.le_of_ble_eq_true rfl⟩ (by decide +kernel) ?_
            refine l_blk (pc' := 350) (loc' := [some (vR (7, 0, 0)), some (vI v), some (vI w), some (vI z), some (vI (nI (sz S 2))), some (vI (nI u13)), some (vI (nI u24)), some (vI (nI (w0 + u263))), some (vI (nI (w0 + u263 + u275)))]) (st' := [vI (0 : Int32), vR (7, 0, 0), vI (nI (w0 + u263)), vI (1 : Int32)]) (B' := B) [(346, .iload 7), (348, .aload_n 0), (349, .iconst 0)] (by decide +kernel) rfl rfl ?_
            refine l_callV (nI w0) ((SA, (keepL Hs S, P)) : XS) [vI (0 : Int32)] [vI (nI (w0 + u263)), vI (1 : Int32)] vl_RL_60 mi_X4_count (k_count l ((r_count0).trans (f5.trans hw))) rfl rfl rfl ⟨Nat.le_of_ble_eq_true rfl, Nat.le_of_ble_eq_true rfl⟩ rfl (Nat.le_of_ble_eq_true rfl) ⟨Nat.le_of_ble_eq_true rfl, Nat.le_of_ble_eq_true rfl⟩ (by decide +kernel) ?_
            refine l_icmp_ne (off := 7) (tgt := 360) (by decide +kernel) (by decide) (fun zc353 => ?_) (fun zc353 => ?_)
            · exact absurd zc353 (not_not_intro (by rw [hu]; rfl))
            · refine l_blk (pc' := 361) (loc' := [some (vR (7, 0, 0)), some (vI v), some (vI w), some (vI z), some (vI (nI (sz S 2))), some (vI (nI u13)), some (vI (nI u24)), some (vI (nI (w0 + u263))), some (vI (nI (w0 + u263 + u275)))]) (st' := [vI (1 : Int32), vI (1 : Int32)]) (B' := B) [(356, .iconst 1), (357, .goto 4)] (by decide +kernel) rfl rfl ?_
              refine l_icmp_ne (off := 7) (tgt := 368) (by decide +kernel) (by decide) (fun zc361 => ?_) (fun zc361 => ?_)
              · exact absurd zc361 (by decide)
              · refine l_blk (pc' := 369) (loc' := [some (vR (7, 0, 0)), some (vI v), some (vI w), some (vI z), some (vI (nI (sz S 2))), some (vI (nI u13)), some (vI (nI u24)), some (vI (nI (w0 + u263))), some (vI (nI (w0 + u263 + u275)))]) (st' := [vI (1 : Int32)]) (B' := B) [(364, .iconst 1), (365, .goto 4)] (by decide +kernel) rfl rfl ?_
                subst hK
                exact l_zret ⟨Nat.le_of_ble_eq_true rfl, Nat.le_of_ble_eq_true rfl⟩ (Or.inr rfl) (⟨rfl, hJa⟩) (by decide +kernel)
      · refine l_blk (pc' := 317) (loc' := [some (vR (7, 0, 0)), some (vI v), some (vI w), some (vI z), some (vI (nI (sz S 2))), some (vI (nI u13)), some (vI (nI u24)), some (vI (nI (w0 + u263))), some (vI (nI (w0 + u263 + u275)))]) (st' := [vI (nI (w0 + u263 + u275)), vI (nI (w0 + u263)), vI (nI u13), vR (7, 0, 0)]) (B' := B) [(310, .aload_n 0), (311, .iload 5), (313, .iload 7), (315, .iload 8)] (by decide +kernel) rfl rfl ?_
        obtain ⟨SA, hxa, hJa, f5, sA, awA⟩ := ac_aw1 (Hs := Hs) (P := P) (u := u263) (t := w0 + u263 + u275) hJ hu13 hw h286 (by omega)
        rw [if_neg hu] at hxa awA
        have hBA : EB SA := eb_J hJa
        refine l_callV (0 : Int32) ((SA, (keepL Hs S, P)) : XS) [vI (nI u13), vI (nI (w0 + u263)), vI (nI (w0 + u263 + u275))] [] vl_RL_95 mi_X4_away (k_away l (hxa)) rfl rfl rfl ⟨Nat.le_of_ble_eq_true rfl, Nat.le_of_ble_eq_true rfl⟩ rfl (Nat.le_of_ble_eq_true rfl) ⟨Nat.le_of_ble_eq_true rfl, Nat.le_of_ble_eq_true rfl⟩ (by decide +kernel) ?_
        refine l_blk (pc' := 324) (loc' := [some (vR (7, 0, 0)), some (vI v), some (vI w), some (vI z), some (vI (nI (sz S 2))), some (vI (nI u13)), some (vI (nI u24)), some (vI (nI (w0 + u263))), some (vI (nI (w0 + u263 + u275)))]) (st' := [vI (0 : Int32), vR (7, 0, 0), vI (nI (w0 + u263)), vI (0 : Int32)]) (B' := B) [(320, .iload 7), (322, .aload_n 0), (323, .iconst 0)] (by decide +kernel) rfl rfl ?_
        refine l_callV (nI w0) ((SA, (keepL Hs S, P)) : XS) [vI (0 : Int32)] [vI (nI (w0 + u263)), vI (0 : Int32)] vl_RL_60 mi_X4_count (k_count l ((r_count0).trans (f5.trans hw))) rfl rfl rfl ⟨Nat.le_of_ble_eq_true rfl, Nat.le_of_ble_eq_true rfl⟩ rfl (Nat.le_of_ble_eq_true rfl) ⟨Nat.le_of_ble_eq_true rfl, Nat.le_of_ble_eq_true rfl⟩ (by decide +kernel) ?_
        refine l_icmp_ne (off := 7) (tgt := 334) (by decide +kernel) (by decide) (fun zc327 => ?_) (fun zc327 => ?_)
        · refine l_blk (pc' := 335) (loc' := [some (vR (7, 0, 0)), some (vI v), some (vI w), some (vI z), some (vI (nI (sz S 2))), some (vI (nI u13)), some (vI (nI u24)), some (vI (nI (w0 + u263))), some (vI (nI (w0 + u263 + u275)))]) (st' := [vI (0 : Int32), vI (0 : Int32)]) (B' := B) [(334, .iconst 0)] (by decide +kernel) rfl rfl ?_
          refine l_icmp_ne (off := 33) (tgt := 368) (by decide +kernel) (by decide) (fun zc335 => ?_) (fun zc335 => ?_)
          · exact absurd zc335 (by decide)
          · refine l_blk (pc' := 343) (loc' := [some (vR (7, 0, 0)), some (vI v), some (vI w), some (vI z), some (vI (nI (sz S 2))), some (vI (nI u13)), some (vI (nI u24)), some (vI (nI (w0 + u263))), some (vI (nI (w0 + u263 + u275)))]) (st' := [vI (8 : Int32), vI (nI u13), vR (7, 0, 0)]) (B' := B) [(338, .aload_n 0), (339, .iload 5), (341, .bipush 8)] (by decide +kernel) rfl rfl ?_
            refine l_callV (0 : Int32) ((SA, (keepL Hs S, P)) : XS) [vI (nI u13), vI (8 : Int32)] [] vl_RL_98 mi_X4_about (k_about l ((r_about8 hBA (show u13 < sz SA 0 by omega)).trans (awA))) rfl rfl rfl ⟨Nat.le_of_ble_eq_true rfl, Nat.le_of_ble_eq_true rfl⟩ rfl (Nat.le_of_ble_eq_true rfl) ⟨Nat.le_of_ble_eq_true rfl, Nat.le_of_ble_eq_true rfl⟩ (by decide +kernel) ?_
            refine l_blk (pc' := 350) (loc' := [some (vR (7, 0, 0)), some (vI v), some (vI w), some (vI z), some (vI (nI (sz S 2))), some (vI (nI u13)), some (vI (nI u24)), some (vI (nI (w0 + u263))), some (vI (nI (w0 + u263 + u275)))]) (st' := [vI (0 : Int32), vR (7, 0, 0), vI (nI (w0 + u263)), vI (0 : Int32)]) (B' := B) [(346, .iload 7), (348, .aload_n 0), (349, .iconst 0)] (by decide +kernel) rfl rfl ?_
            refine l_callV (nI w0) ((SA, (keepL Hs S, P)) : XS) [vI (0 : Int32)] [vI (nI (w0 + u263)), vI (0 : Int32)] vl_RL_60 mi_X4_count (k_count l ((r_count0).trans (f5.trans hw))) rfl rfl rfl ⟨Nat.le_of_ble_eq_true rfl, Nat.le_of_ble_eq_true rfl⟩ rfl (Nat.le_of_ble_eq_true rfl) ⟨Nat.le_of_ble_eq_true rfl, Nat.le_of_ble_eq_true rfl⟩ (by decide +kernel) ?_
            refine l_icmp_ne (off := 7) (tgt := 360) (by decide +kernel) (by decide) (fun zc353 => ?_) (fun zc353 => ?_)
            · refine l_blk (pc' := 361) (loc' := [some (vR (7, 0, 0)), some (vI v), some (vI w), some (vI z), some (vI (nI (sz S 2))), some (vI (nI u13)), some (vI (nI u24)), some (vI (nI (w0 + u263))), some (vI (nI (w0 + u263 + u275)))]) (st' := [vI (0 : Int32), vI (0 : Int32)]) (B' := B) [(360, .iconst 0)] (by decide +kernel) rfl rfl ?_
              refine l_icmp_ne (off := 7) (tgt := 368) (by decide +kernel) (by decide) (fun zc361 => ?_) (fun zc361 => ?_)
              · exact absurd zc361 (by decide)
              · refine l_blk (pc' := 369) (loc' := [some (vR (7, 0, 0)), some (vI v), some (vI w), some (vI z), some (vI (nI (sz S 2))), some (vI (nI u13)), some (vI (nI u24)), some (vI (nI (w0 + u263))), some (vI (nI (w0 + u263 + u275)))]) (st' := [vI (1 : Int32)]) (B' := B) [(364, .iconst 1), (365, .goto 4)] (by decide +kernel) rfl rfl ?_
                subst hK
                exact l_zret ⟨Nat.le_of_ble_eq_true rfl, Nat.le_of_ble_eq_true rfl⟩ (Or.inr rfl) (⟨rfl, hJa⟩) (by decide +kernel)
            · exact absurd zc353 (fun q => hu (by have := (nI_eq (by omega) (by omega)).mp q; omega))
        · exact absurd zc327 (fun q => hu (by have := (nI_eq (by omega) (by omega)).mp q; omega))
    · have h286 : ¬ w0 + u263 + u275 ≤ 999 := fun q => zc286 ((nI_leI (b := 999) (by omega) (by decide)).mpr q)
      refine l_blk (pc' := 296) (loc' := [some (vR (7, 0, 0)), some (vI v), some (vI w), some (vI z), some (vI (nI (sz S 2))), some (vI (nI u13)), some (vI (nI u24)), some (vI (nI (w0 + u263))), some (vI (nI (w0 + u263 + u275)))]) (st' := [vI (nI (w0 + u263 + u275)), vI (nI (w0 + u263)), vI (nI u13), vR (7, 0, 0)]) (B' := B) [(289, .aload_n 0), (290, .iload 5), (292, .iload 7), (294, .iload 8)] (by decide +kernel) rfl rfl ?_
      refine l_callV (-2 : Int32) ((S, (Hs, P)) : XS) [vI (nI u13), vI (nI (w0 + u263)), vI (nI (w0 + u263 + u275))] [] vl_RL_95 mi_X4_away (k_away l (ac_aw2 hu13 (by omega) (by omega) (by omega) h286)) rfl rfl rfl ⟨Nat.le_of_ble_eq_true rfl, Nat.le_of_ble_eq_true rfl⟩ rfl (Nat.le_of_ble_eq_true rfl) ⟨Nat.le_of_ble_eq_true rfl, Nat.le_of_ble_eq_true rfl⟩ (by decide +kernel) ?_
      refine l_blk (pc' := 301) (loc' := [some (vR (7, 0, 0)), some (vI v), some (vI w), some (vI z), some (vI (nI (sz S 2))), some (vI (nI u13)), some (vI (nI u24)), some (vI (nI (w0 + u263))), some (vI (nI (w0 + u263 + u275)))]) (st' := [vI (-2 : Int32), vI (-2 : Int32)]) (B' := B) [(299, .bipush (-2))] (by decide +kernel) rfl rfl ?_
      refine l_icmp_ne (off := 7) (tgt := 308) (by decide +kernel) (by decide) (fun zc301 => ?_) (fun zc301 => ?_)
      · exact absurd zc301 (by decide)
      · refine l_blk (pc' := 309) (loc' := [some (vR (7, 0, 0)), some (vI v), some (vI w), some (vI z), some (vI (nI (sz S 2))), some (vI (nI u13)), some (vI (nI u24)), some (vI (nI (w0 + u263))), some (vI (nI (w0 + u263 + u275)))]) (st' := [vI (1 : Int32)]) (B' := B) [(304, .iconst 1), (305, .goto 4)] (by decide +kernel) rfl rfl ?_
        subst hK
        exact l_zret ⟨Nat.le_of_ble_eq_true rfl, Nat.le_of_ble_eq_true rfl⟩ (Or.inr rfl) (⟨rfl, hJ.up⟩) (by decide +kernel)
  rcases (show u32 = 0 ∨ u32 = 1 ∨ u32 = 2 ∨ u32 = 3 ∨ u32 = 4 ∨ u32 = 5 ∨ u32 = 6 ∨ u32 = 7 ∨ u32 = 8 ∨ u32 = 9 ∨ u32 = 10 by omega) with rfl | rfl | rfl | rfl | rfl | rfl | rfl | rfl | rfl | rfl | rfl
  · exact l_tabI (dflt := 219) (lo := 0) (hi := 9) (offs := #[53, 53, 58, 58, 58, 91, 91, 122, 131, 172]) (len := 53) (off := 53) (tgt := 88) (by decide +kernel) (by decide) (by decide) rfl (by decide) ht88
  · exact l_tabI (dflt := 219) (lo := 0) (hi := 9) (offs := #[53, 53, 58, 58, 58, 91, 91, 122, 131, 172]) (len := 53) (off := 53) (tgt := 88) (by decide +kernel) (by decide) (by decide) rfl (by decide) ht88
  · exact l_tabI (dflt := 219) (lo := 0) (hi := 9) (offs := #[53, 53, 58, 58, 58, 91, 91, 122, 131, 172]) (len := 53) (off := 58) (tgt := 93) (by decide +kernel) (by decide) (by decide) rfl (by decide) ht93
  · exact l_tabI (dflt := 219) (lo := 0) (hi := 9) (offs := #[53, 53, 58, 58, 58, 91, 91, 122, 131, 172]) (len := 53) (off := 58) (tgt := 93) (by decide +kernel) (by decide) (by decide) rfl (by decide) ht93
  · exact l_tabI (dflt := 219) (lo := 0) (hi := 9) (offs := #[53, 53, 58, 58, 58, 91, 91, 122, 131, 172]) (len := 53) (off := 58) (tgt := 93) (by decide +kernel) (by decide) (by decide) rfl (by decide) ht93
  · exact l_tabI (dflt := 219) (lo := 0) (hi := 9) (offs := #[53, 53, 58, 58, 58, 91, 91, 122, 131, 172]) (len := 53) (off := 91) (tgt := 126) (by decide +kernel) (by decide) (by decide) rfl (by decide) ht126
  · exact l_tabI (dflt := 219) (lo := 0) (hi := 9) (offs := #[53, 53, 58, 58, 58, 91, 91, 122, 131, 172]) (len := 53) (off := 91) (tgt := 126) (by decide +kernel) (by decide) (by decide) rfl (by decide) ht126
  · exact l_tabI (dflt := 219) (lo := 0) (hi := 9) (offs := #[53, 53, 58, 58, 58, 91, 91, 122, 131, 172]) (len := 53) (off := 122) (tgt := 157) (by decide +kernel) (by decide) (by decide) rfl (by decide) ht157
  · exact l_tabI (dflt := 219) (lo := 0) (hi := 9) (offs := #[53, 53, 58, 58, 58, 91, 91, 122, 131, 172]) (len := 53) (off := 131) (tgt := 166) (by decide +kernel) (by decide) (by decide) rfl (by decide) ht166
  · exact l_tabI (dflt := 219) (lo := 0) (hi := 9) (offs := #[53, 53, 58, 58, 58, 91, 91, 122, 131, 172]) (len := 53) (off := 172) (tgt := 207) (by decide +kernel) (by decide) (by decide) rfl (by decide) ht207
  · exact l_tabO (dflt := 219) (lo := 0) (hi := 9) (offs := #[53, 53, 58, 58, 58, 91, 91, 122, 131, 172]) (len := 53) (tgt := 254) (by decide +kernel) (Or.inr (by decide)) (by decide) ht254
