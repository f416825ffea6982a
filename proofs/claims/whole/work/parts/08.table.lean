/-! TABLES: contracts (laid by wip/whole/mk08.py) -/
theorem fa_nle {a b : Int32} (h : b ≤ a) : a < b → False := fun z => absurd (Int32.lt_iff_toInt_lt.mp z) (by have := Int32.le_iff_toInt_le.mp h; omega)
theorem fa_nlt {a b : Int32} (h : ¬ a < b) : b ≤ a := Int32.le_iff_toInt_le.mpr (by have : ¬ a.toInt < b.toInt := fun z => h (Int32.lt_iff_toInt_lt.mpr z); omega)
set_option maxHeartbeats 1000000 in
theorem c_X3_size (l : Launch) {σ : Sg} {j h : Nat} (hT : TOK σ j h) : Con l 0 yX3_size cX3_size 1 (some .int) [vR (0, j, h)] σ (pureP (nI (tN σ j h)) σ) := by
  refine con_of pn_X3_size (Nat.le_of_ble_eq_true rfl) (fun hPK hok => ?_)
  show G l (Rm 0) RX3 cX3_size 1 (some .int) _ 0 [some (vR (0, j, h))] [] σ
  refine g_blk (pc' := 4) (loc' := [some (vR (0, j, h))]) (st' := [vI (σ.1 (0, j, h) 3)]) (σ' := σ) fl3_ok [(0, .aload_n 0), (1, .getfield 28)] (by decide +kernel) rfl rfl ?_
  exact g_iret (by decide +kernel) (by rw [hT.2]; exact ⟨rfl, rfl⟩)
set_option maxHeartbeats 1000000 in
theorem c_X3_isFull (l : Launch) {σ : Sg} {j h : Nat} (hT : TOK σ j h) : Con l 0 yX3_isFull cX3_isFull 1 (some .boolean) [vR (0, j, h)] σ (pureP (if mst j ≤ tN σ j h then 1 else 0) σ) := by
  refine con_of pn_X3_isFull (Nat.le_of_ble_eq_true rfl) (fun hPK hok => ?_)
  show G l (Rm 0) RX3 cX3_isFull 1 (some .boolean) _ 0 [some (vR (0, j, h))] [] σ
  refine g_blk (pc' := 8) (loc' := [some (vR (0, j, h))]) (st' := [vI (tMost j), vI (σ.1 (0, j, h) 3)]) (σ' := σ) fl3_ok [(0, .aload_n 0), (1, .getfield 28), (4, .aload_n 0), (5, .getfield 9)] (by decide +kernel) rfl rfl ?_
  refine g_icmp_lt (off := 7) (tgt := 15) (by decide +kernel) (by decide) (fun c8 => ?_) (fun c8 => ?_)
  · refine g_blk (pc' := 16) (loc' := [some (vR (0, j, h))]) (st' := [vI (0 : Int32)]) (σ' := σ) fl3_ok [(15, .iconst 0)] (by decide +kernel) rfl rfl ?_
    exact g_zret (by decide +kernel) (Or.inl rfl) (by rw [tMost_eq, hT.2] at c8; rw [nI_ltI (by have := mst_le j; have := hT.1; omega) (by have := mst_le j; have := hT.1; omega)] at c8; exact ⟨by rw [if_neg (by omega)], rfl⟩)
  · refine g_blk (pc' := 16) (loc' := [some (vR (0, j, h))]) (st' := [vI (1 : Int32)]) (σ' := σ) fl3_ok [(11, .iconst 1), (12, .goto 4)] (by decide +kernel) rfl rfl ?_
    exact g_zret (by decide +kernel) (Or.inr rfl) (by rw [tMost_eq, hT.2] at c8; rw [nI_ltI (by have := mst_le j; have := hT.1; omega) (by have := mst_le j; have := hT.1; omega)] at c8; exact ⟨by rw [if_pos (by omega)], rfl⟩)
set_option maxHeartbeats 1000000 in
theorem c_X3_has (l : Launch) {σ : Sg} {j h : Nat} (row : Int32) (hT : TOK σ j h) : Con l 0 yX3_has cX3_has 2 (some .boolean) [vR (0, j, h), vI row] σ (pureP (hasT row (tN σ j h)) σ) := by
  refine con_of pn_X3_has (Nat.le_of_ble_eq_true rfl) (fun hPK hok => ?_)
  show G l (Rm 0) RX3 cX3_has 2 (some .boolean) _ 0 [some (vR (0, j, h)), some (vI row)] [] σ
  refine g_blk (pc' := 1) (loc' := [some (vR (0, j, h)), some (vI row)]) (st' := [vI row]) (σ' := σ) fl3_ok [(0, .iload_n 1)] (by decide +kernel) rfl rfl ?_
  refine g_if_lt (off := 15) (tgt := 16) (by decide +kernel) (by decide) (fun c1 => ?_) (fun c1 => ?_)
  · refine g_blk (pc' := 17) (loc' := [some (vR (0, j, h)), some (vI row)]) (st' := [vI (0 : Int32)]) (σ' := σ) fl3_ok [(16, .iconst 0)] (by decide +kernel) rfl rfl ?_
    exact g_zret (by decide +kernel) (Or.inl rfl) (⟨by rw [hasT_out (out_lo c1)], rfl⟩)
  · refine g_blk (pc' := 9) (loc' := [some (vR (0, j, h)), some (vI row)]) (st' := [vI (σ.1 (0, j, h) 3), vI row]) (σ' := σ) fl3_ok [(4, .iload_n 1), (5, .aload_n 0), (6, .getfield 28)] (by decide +kernel) rfl rfl ?_
    refine g_icmp_ge (off := 7) (tgt := 16) (by decide +kernel) (by decide) (fun c9 => ?_) (fun c9 => ?_)
    · refine g_blk (pc' := 17) (loc' := [some (vR (0, j, h)), some (vI row)]) (st' := [vI (0 : Int32)]) (σ' := σ) fl3_ok [(16, .iconst 0)] (by decide +kernel) rfl rfl ?_
      exact g_zret (by decide +kernel) (Or.inl rfl) (⟨by rw [hasT_out (out_hi (by have := mst_le j; have := hT.1; omega) (by rw [hT.2] at c9; exact c9))], rfl⟩)
    · refine g_blk (pc' := 17) (loc' := [some (vR (0, j, h)), some (vI row)]) (st' := [vI (1 : Int32)]) (σ' := σ) fl3_ok [(12, .iconst 1), (13, .goto 4)] (by decide +kernel) rfl rfl ?_
      exact g_zret (by decide +kernel) (Or.inr rfl) (⟨by rw [hT.2] at c9; obtain ⟨r, hr, rfl⟩ := in_of (by have := mst_le j; have := hT.1; omega) c1 c9; rw [hasT_in (vp_in_nI hr (by have := mst_le j; have := hT.1; omega))], rfl⟩)
set_option maxHeartbeats 1000000 in
theorem c_X3_cell (l : Launch) {σ : Sg} {j h : Nat} (row col : Int32) (hT : TOK σ j h) : Con l 0 yX3_cell cX3_cell 4 (some .int) [vR (0, j, h), vI row, vI col] σ (pureP (tcell (tabs σ j h) row col) σ) := by
  refine con_of pn_X3_cell (Nat.le_of_ble_eq_true rfl) (fun hPK hok => ?_)
  show G l (Rm 0) RX3 cX3_cell 4 (some .int) _ 0 [some (vR (0, j, h)), some (vI row), some (vI col), none] [] σ
  refine g_blk (pc' := 1) (loc' := [some (vR (0, j, h)), some (vI row), some (vI col), none]) (st' := [vI row]) (σ' := σ) fl3_ok [(0, .iload_n 1)] (by decide +kernel) rfl rfl ?_
  refine g_if_lt (off := 23) (tgt := 24) (by decide +kernel) (by decide) (fun c1 => ?_) (fun c1 => ?_)
  · refine g_blk (pc' := 25) (loc' := [some (vR (0, j, h)), some (vI row), some (vI col), none]) (st' := [vI (0 : Int32)]) (σ' := σ) fl3_ok [(24, .iconst 0)] (by decide +kernel) rfl rfl ?_
    exact g_iret (by decide +kernel) (⟨by rw [tcell_out (fun q => out_lo c1 q.1)], rfl⟩)
  · refine g_blk (pc' := 9) (loc' := [some (vR (0, j, h)), some (vI row), some (vI col), none]) (st' := [vI (σ.1 (0, j, h) 3), vI row]) (σ' := σ) fl3_ok [(4, .iload_n 1), (5, .aload_n 0), (6, .getfield 28)] (by decide +kernel) rfl rfl ?_
    refine g_icmp_ge (off := 15) (tgt := 24) (by decide +kernel) (by decide) (fun c9 => ?_) (fun c9 => ?_)
    · refine g_blk (pc' := 25) (loc' := [some (vR (0, j, h)), some (vI row), some (vI col), none]) (st' := [vI (0 : Int32)]) (σ' := σ) fl3_ok [(24, .iconst 0)] (by decide +kernel) rfl rfl ?_
      exact g_iret (by decide +kernel) (⟨by rw [tcell_out (fun q => out_hi (by have := mst_le j; have := hT.1; omega) (by rw [hT.2] at c9; exact c9) q.1)], rfl⟩)
    · refine g_blk (pc' := 13) (loc' := [some (vR (0, j, h)), some (vI row), some (vI col), none]) (st' := [vI col]) (σ' := σ) fl3_ok [(12, .iload_n 2)] (by decide +kernel) rfl rfl ?_
      refine g_if_lt (off := 11) (tgt := 24) (by decide +kernel) (by decide) (fun c13 => ?_) (fun c13 => ?_)
      · refine g_blk (pc' := 25) (loc' := [some (vR (0, j, h)), some (vI row), some (vI col), none]) (st' := [vI (0 : Int32)]) (σ' := σ) fl3_ok [(24, .iconst 0)] (by decide +kernel) rfl rfl ?_
        exact g_iret (by decide +kernel) (⟨by rw [tcell_out (fun q => out_lo c13 q.2)], rfl⟩)
      · refine g_blk (pc' := 21) (loc' := [some (vR (0, j, h)), some (vI row), some (vI col), none]) (st' := [vI (tWid j), vI col]) (σ' := σ) fl3_ok [(16, .iload_n 2), (17, .aload_n 0), (18, .getfield 15)] (by decide +kernel) rfl rfl ?_
        refine g_icmp_lt (off := 5) (tgt := 26) (by decide +kernel) (by decide) (fun c21 => ?_) (fun c21 => ?_)
        · rw [hT.2] at c9
          rw [tWid_eq] at c21
          obtain ⟨r, hr, er⟩ := in_of (by have := mst_le j; have := hT.1; omega) c1 c9
          obtain ⟨c, hc, ec⟩ := in_of (by have := wid_le j; omega) c13 (fun z => fa_nle z c21)
          have hm : r < mst j := Nat.lt_of_lt_of_le hr hT.1
          have hidx : row * tWid j + col = nI (r * wid j + c) := by rw [er, ec, tWid_eq, flat_I]
          have hlt : r * wid j + c < tLen j := by rw [tLen_eq]; exact flat_lt hm hc
          have hsm := flat_small hm hc
          have hL : tLen j < 2 ^ 31 := by rw [tLen_eq]; have := Nat.mul_le_mul (mst_le j) (wid_le j); omega
          refine g_blk (pc' := 40) (loc' := [some (vR (0, j, h)), some (vI row), some (vI col), some (vI ((row * (tWid j)) + col))]) (st' := [vR (1, j, h), vI ((row * (tWid j)) + col)]) (σ' := σ) fl3_ok [(26, .iload_n 1), (27, .aload_n 0), (28, .getfield 15), (31, .imul), (32, .iload_n 2), (33, .iadd), (34, .istore_n 3), (35, .iload_n 3), (36, .aload_n 0), (37, .getfield 24)] (by decide +kernel) rfl rfl ?_
          refine g_alen (x := (0, tLen j)) rfl (Nat.le_of_ble_eq_true rfl) (by decide +kernel) ?_
          refine g_icmp_ge (off := 12) (tgt := 53) (by decide +kernel) (by decide) (fun c41 => ?_) (fun c41 => ?_)
          · rw [hidx, show Int32.ofNat (tLen j) = nI (tLen j) from rfl, nI_leI hL hsm] at c41
            exact absurd hlt (by omega)
          · refine g_blk (pc' := 49) (loc' := [some (vR (0, j, h)), some (vI row), some (vI col), some (vI ((row * (tWid j)) + col))]) (st' := [vI ((row * (tWid j)) + col), vR (1, j, h)]) (σ' := σ) fl3_ok [(44, .aload_n 0), (45, .getfield 24), (48, .iload_n 3)] (by decide +kernel) rfl rfl ?_
            refine g_iald (n := tLen j) rfl (by rw [hidx]; exact vp_in_nI hlt hL) (by decide +kernel) ?_
            refine g_blk (pc' := 54) (loc' := [some (vR (0, j, h)), some (vI row), some (vI col), some (vI ((row * (tWid j)) + col))]) (st' := [vI (σ.1 (1, j, h) ((row * (tWid j)) + col).toNatClampNeg)]) (σ' := σ) fl3_ok [(50, .goto 4)] (by decide +kernel) rfl rfl ?_
            exact g_iret (by decide +kernel) (⟨by rw [er, ec, tcell_at hT hr hc, tWid_eq, flat_I], rfl⟩)
        · refine g_blk (pc' := 25) (loc' := [some (vR (0, j, h)), some (vI row), some (vI col), none]) (st' := [vI (0 : Int32)]) (σ' := σ) fl3_ok [(24, .iconst 0)] (by decide +kernel) rfl rfl ?_
          exact g_iret (by decide +kernel) (⟨by rw [tcell_out (fun q => out_hi (by have := wid_le j; omega) (by rw [tWid_eq] at c21; exact fa_nlt c21) q.2)], rfl⟩)
set_option maxHeartbeats 1000000 in
theorem c_X3_write (l : Launch) {σ : Sg} {j h : Nat} (row col v : Int32) (hT : TOK σ j h) : Con l 0 yX3_write cX3_write 5 none [vR (0, j, h), vI row, vI col, vI v] σ (fun o σ' => o = none ∧ TW j h (twr (wid j) (tabs σ j h) row col v) σ σ') := by
  refine con_of pn_X3_write (Nat.le_of_ble_eq_true rfl) (fun hPK hok => ?_)
  show G l (Rm 0) RX3 cX3_write 5 none _ 0 [some (vR (0, j, h)), some (vI row), some (vI col), some (vI v), none] [] σ
  refine g_blk (pc' := 1) (loc' := [some (vR (0, j, h)), some (vI row), some (vI col), some (vI v), none]) (st' := [vI row]) (σ' := σ) fl3_ok [(0, .iload_n 1)] (by decide +kernel) rfl rfl ?_
  refine g_if_lt (off := 23) (tgt := 24) (by decide +kernel) (by decide) (fun c1 => ?_) (fun c1 => ?_)
  · exact g_vret (by decide +kernel) (⟨rfl, tw_no hT (fun q => out_lo c1 q.1)⟩)
  · refine g_blk (pc' := 9) (loc' := [some (vR (0, j, h)), some (vI row), some (vI col), some (vI v), none]) (st' := [vI (σ.1 (0, j, h) 3), vI row]) (σ' := σ) fl3_ok [(4, .iload_n 1), (5, .aload_n 0), (6, .getfield 28)] (by decide +kernel) rfl rfl ?_
    refine g_icmp_ge (off := 15) (tgt := 24) (by decide +kernel) (by decide) (fun c9 => ?_) (fun c9 => ?_)
    · exact g_vret (by decide +kernel) (⟨rfl, tw_no hT (fun q => out_hi (by have := mst_le j; have := hT.1; omega) (by rw [hT.2] at c9; exact c9) q.1)⟩)
    · refine g_blk (pc' := 13) (loc' := [some (vR (0, j, h)), some (vI row), some (vI col), some (vI v), none]) (st' := [vI col]) (σ' := σ) fl3_ok [(12, .iload_n 2)] (by decide +kernel) rfl rfl ?_
      refine g_if_lt (off := 11) (tgt := 24) (by decide +kernel) (by decide) (fun c13 => ?_) (fun c13 => ?_)
      · exact g_vret (by decide +kernel) (⟨rfl, tw_no hT (fun q => out_lo c13 q.2)⟩)
      · refine g_blk (pc' := 21) (loc' := [some (vR (0, j, h)), some (vI row), some (vI col), some (vI v), none]) (st' := [vI (tWid j), vI col]) (σ' := σ) fl3_ok [(16, .iload_n 2), (17, .aload_n 0), (18, .getfield 15)] (by decide +kernel) rfl rfl ?_
        refine g_icmp_lt (off := 4) (tgt := 25) (by decide +kernel) (by decide) (fun c21 => ?_) (fun c21 => ?_)
        · rw [hT.2] at c9
          rw [tWid_eq] at c21
          obtain ⟨r, hr, er⟩ := in_of (by have := mst_le j; have := hT.1; omega) c1 c9
          obtain ⟨c, hc, ec⟩ := in_of (by have := wid_le j; omega) c13 (fun z => fa_nle z c21)
          have hm : r < mst j := Nat.lt_of_lt_of_le hr hT.1
          have hidx : row * tWid j + col = nI (r * wid j + c) := by rw [er, ec, tWid_eq, flat_I]
          have hlt : r * wid j + c < tLen j := by rw [tLen_eq]; exact flat_lt hm hc
          have hsm := flat_small hm hc
          have hL : tLen j < 2 ^ 31 := by rw [tLen_eq]; have := Nat.mul_le_mul (mst_le j) (wid_le j); omega
          refine g_blk (pc' := 41) (loc' := [some (vR (0, j, h)), some (vI row), some (vI col), some (vI v), some (vI ((row * (tWid j)) + col))]) (st' := [vR (1, j, h), vI ((row * (tWid j)) + col)]) (σ' := σ) fl3_ok [(25, .iload_n 1), (26, .aload_n 0), (27, .getfield 15), (30, .imul), (31, .iload_n 2), (32, .iadd), (33, .istore 4), (35, .iload 4), (37, .aload_n 0), (38, .getfield 24)] (by decide +kernel) rfl rfl ?_
          refine g_alen (x := (0, tLen j)) rfl (Nat.le_of_ble_eq_true rfl) (by decide +kernel) ?_
          refine g_icmp_ge (off := 11) (tgt := 53) (by decide +kernel) (by decide) (fun c42 => ?_) (fun c42 => ?_)
          · rw [hidx, show Int32.ofNat (tLen j) = nI (tLen j) from rfl, nI_leI hL hsm] at c42
            exact absurd hlt (by omega)
          · refine g_blk (pc' := 52) (loc' := [some (vR (0, j, h)), some (vI row), some (vI col), some (vI v), some (vI ((row * (tWid j)) + col))]) (st' := [vI v, vI ((row * (tWid j)) + col), vR (1, j, h)]) (σ' := σ) fl3_ok [(45, .aload_n 0), (46, .getfield 24), (49, .iload 4), (51, .iload_n 3)] (by decide +kernel) rfl rfl ?_
            refine g_iast (n := tLen j) rfl (by rw [hidx]; exact vp_in_nI hlt hL) (by decide +kernel) ?_
            exact g_vret (by decide +kernel) (⟨rfl, by rw [hidx, er, ec]; exact tw_wr hT hr hc⟩)
        · exact g_vret (by decide +kernel) (⟨rfl, tw_no hT (fun q => out_hi (by have := wid_le j; omega) (by rw [tWid_eq] at c21; exact fa_nlt c21) q.2)⟩)
