/-! TABLES: contracts (laid by wip/p26/mk08.py) -/
theorem fa_nle {a b : Int32} (h : b ≤ a) : a < b → False := fun z => absurd (Int32.lt_iff_toInt_lt.mp z) (by have := Int32.le_iff_toInt_le.mp h; omega)
theorem fa_nlt {a b : Int32} (h : ¬ a < b) : b ≤ a := Int32.le_iff_toInt_le.mpr (by have : ¬ a.toInt < b.toInt := fun z => h (Int32.lt_iff_toInt_lt.mpr z); omega)
set_option maxHeartbeats 1000000 in
theorem c_X3_size (l : Launch) {σ : Sg} {j h : Nat} (hT : TOK σ j h) : Con l 0 yX3_size cX3_size 1 (some .int) [vR (0, j, h)] σ (pureP (nI (tN σ j h)) σ) := by
  refine con_of pn_X3_size (Nat.le_of_ble_eq_true rfl) (fun hPK hok => ?_)
  show G l (Rm 0) RX3 cX3_size 1 (some .int) _ 0 [some (vR (0, j, h))] [] σ
  refine g_blk (pc' := 4) (loc' := [some (vR (0, j, h))]) (st' := [vI (σ.1 (0, j, h) 3)]) (σ' := σ) fl3_ok [(0, .aload_n 0), (1, .getfield 28)] (by decide +kernel) rfl rfl ?_
  exact g_iret (by decide +kernel) (by rw [hT.2]; exact ⟨rfl, rfl⟩)
set_option maxHeartbeats 1000000 in
theorem c_X3_isFull (l : Launch) {σ : Sg} {j h : Nat} (hT : TOK σ j h) : Con l 0 yX3_isFull cX3_isFull 1 (some .boolean) [vR (0, j, h)] σ (pureP (if mst j ≤ tN σ j h then 1 else 0) σ) := by
  refine con_of pn_X3_isFull (Nat.le_of_ble_eq_true rfl) (fun hPK hok => ?_)
  show G l (Rm 0) RX3 cX3_isFull 1 (some .boolean) _ 0 [some (vR (0, j, h))] [] σ
  refine g_blk (pc' := 8) (loc' := [some (vR (0, j, h))]) (st' := [vI (tMost j), vI (σ.1 (0, j, h) 3)]) (σ' := σ) fl3_ok [(0, .aload_n 0), (1, .getfield 28), (4, .aload_n 0), (5, .getfield 9)] (by decide +kernel) rfl rfl ?_
  refine g_icmp_lt (off := 7) (tgt := 15) (by decide +kernel) (by decide) (fun c8 => ?_) (fun c8 => ?_)
  · refine g_blk (pc' := 16) (loc' := [some (vR (0, j, h))]) (st' := [vI (0 : Int32)]) (σ' := σ) fl3_ok [(15, .iconst 0)] (by decide +kernel) rfl rfl ?_
    exact g_zret (by decide +kernel) (Or.inl rfl) (by rw [tMost_eq, hT.2] at c8; rw [nI_ltI (by have := mst_le j; have := hT.1; omega) (by have := mst_le j; have := hT.1; omega)] at c8; exact ⟨by rw [if_neg (by omega)], rfl⟩)
  · refine g_blk (pc' := 16) (loc' := [some (vR (0, j, h))]) (st' := [vI (1 : Int32)]) (σ' := σ) fl3_ok [(11, .iconst 1), (12, .goto 4)] (by decide +kernel) rfl rfl ?_
    exact g_zret (by decide +kernel) (Or.inr rfl) (by rw [tMost_eq, hT.2] at c8; rw [nI_ltI (by have := mst_le j; have := hT.1; omega) (by have := mst_le j; have := hT.1; omega)] at c8; exact ⟨by rw [if_pos (by omega)], rfl⟩)
set_option maxHeartbeats 1000000 in
theorem c_X3_has (l : Launch) {σ : Sg} {j h : Nat} (row : Int32) (hT : TOK σ j h) : Con l 0 yX3_has cX3_has 2 (some .boolean) [vR (0, j, h), vI row] σ (pureP (hasT row (tN σ j h)) σ) := by
  refine con_of pn_X3_has (Nat.le_of_ble_eq_true rfl) (fun hPK hok => ?_)
  show G l (Rm 0) RX3 cX3_has 2 (some .boolean) _ 0 [some (vR (0, j, h)), some (vI row)] [] σ
  refine g_blk (pc' := 1) (loc' := [some (vR (0, j, h)), some (vI row)]) (st' := [vI row]) (σ' := σ) fl3_ok [(0, .iload_n 1)] (by decide +kernel) rfl rfl ?_
  refine g_if_lt (off := 15) (tgt := 16) (by decide +kernel) (by decide) (fun c1 => ?_) (fun c1 => ?_)
  · refine g_blk (pc' := 17) (loc' := [some (vR (0, j, h)), some (vI row)]) (st' := [vI (0 : Int32)]) (σ' := σ) fl3_ok [(16, .iconst 0)] (by decide +kernel) rfl rfl ?_
    exact g_zret (by decide +kernel) (Or.inl rfl) (⟨by rw [hasT_out (out_lo c1)], rfl⟩)
  · refine g_blk (pc' := 9) (loc' := [some (vR (0, j, h)), some (vI row)]) (st' := [vI (σ.1 (0, j, h) 3), vI row]) (σ' := σ) fl3_ok [(4, .iload_n 1), (5, .aload_n 0), (6, .getfield 28)] (by decide +kernel) rfl rfl ?_
    refine g_icmp_ge (off := 7) (tgt := 16) (by decide +kernel) (by decide) (fun c9 => ?_) (fun c9 => ?_)
    · refine g_blk (pc' := 17) (loc' := [some (vR (0, j, h)), some (vI row)]) (st' := [vI (0 : Int32)]) (σ' := σ) fl3_ok [(16, .iconst 0)] (by decide +kernel) rfl rfl ?_
      exact g_zret (by decide +kernel) (Or.inl rfl) (⟨by rw [hasT_out (out_hi (by have := mst_le j; have := hT.1; omega) (by rw [hT.2] at c9; exact c9))], rfl⟩)
    · refine g_blk (pc' := 17) (loc' := [some (vR (0, j, h)), some (vI row)]) (st' := [vI (1 : Int32)]) (σ' := σ) fl3_ok [(12, .iconst 1), (13, .goto 4)] (by decide +kernel) rfl rfl ?_
      exact g_zret (by decide +kernel) (Or.inr rfl) (⟨by rw [hT.2] at c9; obtain ⟨r, hr, rfl⟩ := in_of (by have := mst_le j; have := hT.1; omega) c1 c9; rw [hasT_in (vp_in_nI hr (by have := mst_le j; have := hT.1; omega))], rfl⟩)
set_option maxHeartbeats 1000000 in
theorem c_X3_cell (l : Launch) {σ : Sg} {j h : Nat} (row col : Int32) (hT : TOK σ j h) : Con l 0 yX3_cell cX3_cell 4 (some .int) [vR (0, j, h), vI row, vI col] σ (pureP (tcell (tabs σ j h) row col) σ) := by
  refine con_of pn_X3_cell (Nat.le_of_ble_eq_true rfl) (fun hPK hok => ?_)
  show G l (Rm 0) RX3 cX3_cell 4 (some .int) _ 0 [some (vR (0, j, h)), some (vI row), some (vI col), none] [] σ
  refine g_blk (pc' := 1) (loc' := [some (vR (0, j, h)), some (vI row), some (vI col), none]) (st' := [vI row]) (σ' := σ) fl3_ok [(0, .iload_n 1)] (by decide +kernel) rfl rfl ?_
  refine g_if_lt (off := 23) (tgt := 24) (by decide +kernel) (by decide) (fun c1 => ?_) (fun c1 => ?_)
  · refine g_blk (pc' := 25) (loc' := [some (vR (0, j, h)), some (vI row), some (vI col), none]) (st' := [vI (0 : Int32)]) (σ' := σ) fl3_ok [(24, .iconst 0)] (by decide +kernel) rfl rfl ?_
    exact g_iret (by decide +kernel) (⟨by rw [tcell_out (fun q => out_lo c1 q.1)], rfl⟩)
  · refine g_blk (pc' := 9) (loc' := [some (vR (0, j, h)), some (vI row), some (vI col), none]) (st' := [vI (σ.1 (0, j, h) 3), vI row]) (σ' := σ) fl3_ok [(4, .iload_n 1), (5, .aload_n 0), (6, .getfield 28)] (by decide +kernel) rfl rfl ?_
    refine g_icmp_ge (off := 15) (tgt := 24) (by decide +kernel) (by decide) (fun c9 => ?_) (fun c9 => ?_)
    · refine g_blk (pc' := 25) (loc' := [some (vR (0, j, h)), some (vI row), some (vI col), none]) (st' := [vI (0 : Int32)]) (σ' := σ) fl3_ok [(24, .iconst 0)] (by decide +kernel) rfl rfl ?_
      exact g_iret (by decide +kernel) (⟨by rw [tcell_out (fun q => out_hi (by have := mst_le j; have := hT.1; omega) (by rw [hT.2] at c9; exact c9) q.1)], rfl⟩)
    · refine g_blk (pc' := 13) (loc' := [some (vR (0, j, h)), some (vI row), some (vI col), none]) (st' := [vI col]) (σ' := σ) fl3_ok [(12, .iload_n 2)] (by decide +kernel) rfl rfl ?_
      refine g_if_lt (off := 11) (tgt := 24) (by decide +kernel) (by decide) (fun c13 => ?_) (fun c13 => ?_)
      · refine g_blk (pc' := 25) (loc' := [some (vR (0, j, h)), some (vI row), some (vI col), none]) (st' := [vI (0 : Int32)]) (σ' := σ) fl3_ok [(24, .iconst 0)] (by decide +kernel) rfl rfl ?_
        exact g_iret (by decide +kernel) (⟨by rw [tcell_out (fun q => out_lo c13 q.2)], rfl⟩)
      · refine g_blk (pc' := 21) (loc' := [some (vR (0, j, h)), some (vI row), some (vI col), none]) (st' := [vI (tWid j), vI col]) (σ' := σ) fl3_ok [(16, .iload_n 2), (17, .aload_n 0), (18, .getfield 15)] (by decide +kernel) rfl rfl ?_
        refine g_icmp_lt (off := 5) (tgt := 26) (by decide +kernel) (by decide) (fun c21 => ?_) (fun c21 => ?_)
        · rw [hT.2] at c9
          rw [tWid_eq] at c21
          obtain ⟨r, hr, er⟩ := in_of (by have := mst_le j; have := hT.1; omega) c1 c9
          obtain ⟨c, hc, ec⟩ := in_of (by have := wid_le j; omega) c13 (fun z => fa_nle z c21)
          have hm : r < mst j := Nat.lt_of_lt_of_le hr hT.1
          have hidx : row * tWid j + col = nI (r * wid j + c) := by rw [er, ec, tWid_eq, flat_I]
          have hlt : r * wid j + c < tLen j := by rw [tLen_eq]; exact flat_lt hm hc
          have hsm := flat_small hm hc
          have hL : tLen j < 2 ^ 31 := by rw [tLen_eq]; have := Nat.mul_le_mul (mst_le j) (wid_le j); omega
          refine g_blk (pc' := 40) (loc' := [some (vR (0, j, h)), some (vI row), some (vI col), some (vI ((row * (tWid j)) + col))]) (st' := [vR (1, j, h), vI ((row * (tWid j)) + col)]) (σ' := σ) fl3_ok [(26, .iload_n 1), (27, .aload_n 0), (28, .getfield 15), (31, .imul), (32, .iload_n 2), (33, .iadd), (34, .istore_n 3), (35, .iload_n 3), (36, .aload_n 0), (37, .getfield 24)] (by decide +kernel) rfl rfl ?_
          refine g_alen (x := (0, tLen j)) rfl (Nat.le_of_ble_eq_true rfl) (by decide +kernel) ?_
          refine g_icmp_ge (off := 12) (tgt := 53) (by decide +kernel) (by decide) (fun c41 => ?_) (fun c41 => ?_)
          · rw [hidx, show Int32.ofNat (tLen j) = nI (tLen j) from rfl, nI_leI hL hsm] at c41
            exact absurd hlt (by omega)
          · refine g_blk (pc' := 49) (loc' := [some (vR (0, j, h)), some (vI row), some (vI col), some (vI ((row * (tWid j)) + col))]) (st' := [vI ((row * (tWid j)) + col), vR (1, j, h)]) (σ' := σ) fl3_ok [(44, .aload_n 0), (45, .getfield 24), (48, .iload_n 3)] (by decide +kernel) rfl rfl ?_
            refine g_iald (n := tLen j) rfl (by rw [hidx]; exact vp_in_nI hlt hL) (by decide +kernel) ?_
            refine g_blk (pc' := 54) (loc' := [some (vR (0, j, h)), some (vI row), some (vI col), some (vI ((row * (tWid j)) + col))]) (st' := [vI (σ.1 (1, j, h) ((row * (tWid j)) + col).toNatClampNeg)]) (σ' := σ) fl3_ok [(50, .goto 4)] (by decide +kernel) rfl rfl ?_
            exact g_iret (by decide +kernel) (⟨by rw [er, ec, tcell_at hT hr hc, tWid_eq, flat_I], rfl⟩)
        · refine g_blk (pc' := 25) (loc' := [some (vR (0, j, h)), some (vI row), some (vI col), none]) (st' := [vI (0 : Int32)]) (σ' := σ) fl3_ok [(24, .iconst 0)] (by decide +kernel) rfl rfl ?_
          exact g_iret (by decide +kernel) (⟨by rw [tcell_out (fun q => out_hi (by have := wid_le j; omega) (by rw [tWid_eq] at c21; exact fa_nlt c21) q.2)], rfl⟩)
set_option maxHeartbeats 1000000 in
theorem c_X3_write (l : Launch) {σ : Sg} {j h : Nat} (row col v : Int32) (hT : TOK σ j h) : Con l 0 yX3_write cX3_write 5 none [vR (0, j, h), vI row, vI col, vI v] σ (fun o σ' => o = none ∧ TW j h (twr (wid j) (tabs σ j h) row col v) σ σ') := by
  refine con_of pn_X3_write (Nat.le_of_ble_eq_true rfl) (fun hPK hok => ?_)
  show G l (Rm 0) RX3 cX3_write 5 none _ 0 [some (vR (0, j, h)), some (vI row), some (vI col), some (vI v), none] [] σ
  refine g_blk (pc' := 1) (loc' := [some (vR (0, j, h)), some (vI row), some (vI col), some (vI v), none]) (st' := [vI row]) (σ' := σ) fl3_ok [(0, .iload_n 1)] (by decide +kernel) rfl rfl ?_
  refine g_if_lt (off := 23) (tgt := 24) (by decide +kernel) (by decide) (fun c1 => ?_) (fun c1 => ?_)
  · exact g_vret (by decide +kernel) (⟨rfl, tw_no hT (fun q => out_lo c1 q.1)⟩)
  · refine g_blk (pc' := 9) (loc' := [some (vR (0, j, h)), some (vI row), some (vI col), some (vI v), none]) (st' := [vI (σ.1 (0, j, h) 3), vI row]) (σ' := σ) fl3_ok [(4, .iload_n 1), (5, .aload_n 0), (6, .getfield 28)] (by decide +kernel) rfl rfl ?_
    refine g_icmp_ge (off := 15) (tgt := 24) (by decide +kernel) (by decide) (fun c9 => ?_) (fun c9 => ?_)
    · exact g_vret (by decide +kernel) (⟨rfl, tw_no hT (fun q => out_hi (by have := mst_le j; have := hT.1; omega) (by rw [hT.2] at c9; exact c9) q.1)⟩)
    · refine g_blk (pc' := 13) (loc' := [some (vR (0, j, h)), some (vI row), some (vI col), some (vI v), none]) (st' := [vI col]) (σ' := σ) fl3_ok [(12, .iload_n 2)] (by decide +kernel) rfl rfl ?_
      refine g_if_lt (off := 11) (tgt := 24) (by decide +kernel) (by decide) (fun c13 => ?_) (fun c13 => ?_)
      · exact g_vret (by decide +kernel) (⟨rfl, tw_no hT (fun q => out_lo c13 q.2)⟩)
      · refine g_blk (pc' := 21) (loc' := [some (vR (0, j, h)), some (vI row), some (vI col), some (vI v), none]) (st' := [vI (tWid j), vI col]) (σ' := σ) fl3_ok [(16, .iload_n 2), (17, .aload_n 0), (18, .getfield 15)] (by decide +kernel) rfl rfl ?_
        refine g_icmp_lt (off := 4) (tgt := 25) (by decide +kernel) (by decide) (fun c21 => ?_) (fun c21 => ?_)
        · rw [hT.2] at c9
          rw [tWid_eq] at c21
          obtain ⟨r, hr, er⟩ := in_of (by have := mst_le j; have := hT.1; omega) c1 c9
          obtain ⟨c, hc, ec⟩ := in_of (by have := wid_le j; omega) c13 (fun z => fa_nle z c21)
          have hm : r < mst j := Nat.lt_of_lt_of_le hr hT.1
          have hidx : row * tWid j + col = nI (r * wid j + c) := by rw [er, ec, tWid_eq, flat_I]
          have hlt : r * wid j + c < tLen j := by rw [tLen_eq]; exact flat_lt hm hc
          have hsm := flat_small hm hc
          have hL : tLen j < 2 ^ 31 := by rw [tLen_eq]; have := Nat.mul_le_mul (mst_le j) (wid_le j); omega
          refine g_blk (pc' := 41) (loc' := [some (vR (0, j, h)), some (vI row), some (vI col), some (vI v), some (vI ((row * (tWid j)) + col))]) (st' := [vR (1, j, h), vI ((row * (tWid j)) + col)]) (σ' := σ) fl3_ok [(25, .iload_n 1), (26, .aload_n 0), (27, .getfield 15), (30, .imul), (31, .iload_n 2), (32, .iadd), (33, .istore 4), (35, .iload 4), (37, .aload_n 0), (38, .getfield 24)] (by decide +kernel) rfl rfl ?_
          refine g_alen (x := (0, tLen j)) rfl (Nat.le_of_ble_eq_true rfl) (by decide +kernel) ?_
          refine g_icmp_ge (off := 11) (tgt := 53) (by decide +kernel) (by decide) (fun c42 => ?_) (fun c42 => ?_)
          · rw [hidx, show Int32.ofNat (tLen j) = nI (tLen j) from rfl, nI_leI hL hsm] at c42
            exact absurd hlt (by omega)
          · refine g_blk (pc' := 52) (loc' := [some (vR (0, j, h)), some (vI row), some (vI col), some (vI v), some (vI ((row * (tWid j)) + col))]) (st' := [vI v, vI ((row * (tWid j)) + col), vR (1, j, h)]) (σ' := σ) fl3_ok [(45, .aload_n 0), (46, .getfield 24), (49, .iload 4), (51, .iload_n 3)] (by decide +kernel) rfl rfl ?_
            refine g_iast (n := tLen j) rfl (by rw [hidx]; exact vp_in_nI hlt hL) (by decide +kernel) ?_
            exact g_vret (by decide +kernel) (⟨rfl, by rw [hidx, er, ec]; exact tw_wr hT hr hc⟩)
        · exact g_vret (by decide +kernel) (⟨rfl, tw_no hT (fun q => out_hi (by have := wid_le j; omega) (by rw [tWid_eq] at c21; exact fa_nlt c21) q.2)⟩)
set_option maxHeartbeats 1000000 in
theorem c_X3_increase (l : Launch) {σ : Sg} {j h : Nat} (row col v : Int32) (hT : TOK σ j h) : Con l 1 yX3_increase cX3_increase 4 none [vR (0, j, h), vI row, vI col, vI v] σ (fun o σ' => o = none ∧ TW j h (twr (wid j) (tabs σ j h) row col (tcell (tabs σ j h) row col + v)) σ σ') := by
  refine con_of pn_X3_increase (Nat.le_of_ble_eq_true rfl) (fun hPK hok => ?_)
  show G l (Rm 1) RX3 cX3_increase 4 none _ 0 [some (vR (0, j, h)), some (vI row), some (vI col), some (vI v)] [] σ
  refine g_blk (pc' := 6) (loc' := [some (vR (0, j, h)), some (vI row), some (vI col), some (vI v)]) (st' := [vI col, vI row, vR (0, j, h), vI col, vI row, vR (0, j, h)]) (σ' := σ) fl3_ok [(0, .aload_n 0), (1, .iload_n 1), (2, .iload_n 2), (3, .aload_n 0), (4, .iload_n 1), (5, .iload_n 2)] (by decide +kernel) rfl rfl ?_
  refine g_callVp (0, j, h) [vI row, vI col] [vI col, vI row, vR (0, j, h)] vl_RX3_31 mi_X3_cell (c_X3_cell l row col hT) rfl rfl rfl rfl ⟨Nat.le_of_ble_eq_true rfl, Nat.le_of_ble_eq_true rfl⟩ rfl (Nat.le_of_ble_eq_true rfl) (by decide +kernel) ?_
  refine g_blk (pc' := 11) (loc' := [some (vR (0, j, h)), some (vI row), some (vI col), some (vI v)]) (st' := [vI ((tcell (tabs σ j h) row col) + v), vI col, vI row, vR (0, j, h)]) (σ' := σ) fl3_ok [(9, .iload_n 3), (10, .iadd)] (by decide +kernel) rfl rfl ?_
  refine g_callV (0, j, h) [vI row, vI col, vI ((tcell (tabs σ j h) row col) + v)] [] vl_RX3_34 mi_X3_write (c_X3_write l row col ((tcell (tabs σ j h) row col) + v) hT) rfl rfl rfl rfl ⟨Nat.le_of_ble_eq_true rfl, Nat.le_of_ble_eq_true rfl⟩ rfl (Nat.le_of_ble_eq_true rfl) (by decide +kernel) (fun o σ1 hPσ1 => ?_)
  obtain ⟨rfl, hWσ1⟩ := hPσ1
  exact g_vret (by decide +kernel) (⟨rfl, hWσ1⟩)
set_option maxHeartbeats 1000000 in
theorem c_X3_exchange (l : Launch) {σ : Sg} {j h : Nat} (row col v : Int32) (hT : TOK σ j h) : Con l 1 yX3_exchange cX3_exchange 5 (some .int) [vR (0, j, h), vI row, vI col, vI v] σ (fun o σ' => o = some (vI (tcell (tabs σ j h) row col)) ∧ TW j h (twr (wid j) (tabs σ j h) row col v) σ σ') := by
  refine con_of pn_X3_exchange (Nat.le_of_ble_eq_true rfl) (fun hPK hok => ?_)
  show G l (Rm 1) RX3 cX3_exchange 5 (some .int) _ 0 [some (vR (0, j, h)), some (vI row), some (vI col), some (vI v), none] [] σ
  refine g_blk (pc' := 3) (loc' := [some (vR (0, j, h)), some (vI row), some (vI col), some (vI v), none]) (st' := [vI col, vI row, vR (0, j, h)]) (σ' := σ) fl3_ok [(0, .aload_n 0), (1, .iload_n 1), (2, .iload_n 2)] (by decide +kernel) rfl rfl ?_
  refine g_callVp (0, j, h) [vI row, vI col] [] vl_RX3_31 mi_X3_cell (c_X3_cell l row col hT) rfl rfl rfl rfl ⟨Nat.le_of_ble_eq_true rfl, Nat.le_of_ble_eq_true rfl⟩ rfl (Nat.le_of_ble_eq_true rfl) (by decide +kernel) ?_
  refine g_blk (pc' := 12) (loc' := [some (vR (0, j, h)), some (vI row), some (vI col), some (vI v), some (vI (tcell (tabs σ j h) row col))]) (st' := [vI v, vI col, vI row, vR (0, j, h)]) (σ' := σ) fl3_ok [(6, .istore 4), (8, .aload_n 0), (9, .iload_n 1), (10, .iload_n 2), (11, .iload_n 3)] (by decide +kernel) rfl rfl ?_
  refine g_callV (0, j, h) [vI row, vI col, vI v] [] vl_RX3_34 mi_X3_write (c_X3_write l row col v hT) rfl rfl rfl rfl ⟨Nat.le_of_ble_eq_true rfl, Nat.le_of_ble_eq_true rfl⟩ rfl (Nat.le_of_ble_eq_true rfl) (by decide +kernel) (fun o σ1 hPσ1 => ?_)
  obtain ⟨rfl, hWσ1⟩ := hPσ1
  refine g_blk (pc' := 17) (loc' := [some (vR (0, j, h)), some (vI row), some (vI col), some (vI v), some (vI (tcell (tabs σ j h) row col))]) (st' := [vI (tcell (tabs σ j h) row col)]) (σ' := σ1) fl3_ok [(15, .iload 4)] (by decide +kernel) rfl rfl ?_
  exact g_iret (by decide +kernel) (⟨rfl, hWσ1⟩)
set_option maxHeartbeats 1000000 in
theorem c_X3_clear (l : Launch) {σ : Sg} {j h : Nat} (hT : TOK σ j h) : Con l 0 yX3_clear cX3_clear 1 none [vR (0, j, h)] σ (fun o σ' => o = none ∧ TW j h ((0, fun _ _ => 0)) σ σ') := by
  refine con_of pn_X3_clear (Nat.le_of_ble_eq_true rfl) (fun hPK hok => ?_)
  show G l (Rm 0) RX3 cX3_clear 1 none _ 0 [some (vR (0, j, h))] [] σ
  refine g_blk (pc' := 5) (loc' := [some (vR (0, j, h))]) (st' := []) (σ' := (upd2 σ.1 (0, j, h) 3 (0 : Int32), σ.2)) fl3_ok [(0, .aload_n 0), (1, .iconst 0), (2, .putfield 28)] (by decide +kernel) rfl rfl ?_
  generalize hσ1 : ((upd2 σ.1 (0, j, h) 3 (0 : Int32), σ.2) : Sg) = σ1
  exact g_vret (by decide +kernel) (⟨rfl, by obtain ⟨h1, h2, h3, h4⟩ := tabs_rows (m := 0) (Nat.zero_le _) hσ1; exact ⟨Prod.ext h2 (by funext r c; rw [h3, if_neg (fun z => absurd z.1 (Nat.not_lt_zero r))]), h1, h4⟩⟩)
set_option maxHeartbeats 1000000 in
theorem lp_X3_append (l : Launch) {σ0 : Sg} {j h n : Nat} (hn : n < mst j) (hN0 : tN σ0 j h = n) : ∀ (k c : Nat) (σ : Sg), c ≤ wid j → wid j < c + k → TOK σ j h → tN σ j h = n + 1 → FrT j h σ0 σ → (∀ r' c', r' < n → (tabs σ j h).2 r' c' = (tabs σ0 j h).2 r' c') → (∀ c', c' < c → (tabs σ j h).2 n c' = 0) → G l (Rm 1) RX3 cX3_append 3 (some .int) (fun o σ' => o = some (vI (nI n)) ∧ TW j h (tapp (tabs σ0 j h)) σ0 σ') 29 [some (vR (0, j, h)), some (vI (nI n)), some (vI (nI c))] [] σ := by
  intro k
  induction k with
  | zero =>
    intro c σ hc hk hT hN hF hA hZ
    exact absurd hk (by omega)
  | succ k ih =>
    intro c σ hc hk hT hN hF hA hZ
    refine g_blk (pc' := 34) (loc' := [some (vR (0, j, h)), some (vI (nI n)), some (vI (nI c))]) (st' := [vI (tWid j), vI (nI c)]) (σ' := σ) fl3_ok [(29, .iload_n 2), (30, .aload_n 0), (31, .getfield 15)] (by decide +kernel) rfl rfl ?_
    refine g_icmp_ge (off := 16) (tgt := 50) (by decide +kernel) (by decide) (fun c34 => ?_) (fun c34 => ?_)
    · rw [tWid_eq, nI_leI (by have := wid_le j; omega) (by have := wid_le j; omega)] at c34
      refine g_blk (pc' := 51) (loc' := [some (vR (0, j, h)), some (vI (nI n)), some (vI (nI c))]) (st' := [vI (nI n)]) (σ' := σ) fl3_ok [(50, .iload_n 1)] (by decide +kernel) rfl rfl ?_
      have ec : c = wid j := by omega
      refine g_iret (by decide +kernel) ⟨rfl, Prod.ext (by show tN σ j h = tN σ0 j h + 1; rw [hN, hN0]) (by
        funext r' c'
        show (tabs σ j h).2 r' c' = (tabs σ0 j h).2 r' c'
        rcases Nat.lt_trichotomy r' n with q | q | q
        · exact hA r' c' q
        · subst q
          rw [tabs_can (σ := σ0) (by omega)]
          rcases Nat.lt_or_ge c' (wid j) with z | z
          · exact hZ c' (by omega)
          · exact tabs_can (by omega)
        · rw [tabs_can (by omega), tabs_can (by omega)]), hT, hF⟩
    · rw [tWid_eq, nI_leI (by have := wid_le j; omega) (by have := wid_le j; omega)] at c34
      refine g_blk (pc' := 41) (loc' := [some (vR (0, j, h)), some (vI (nI n)), some (vI (nI c))]) (st' := [vI (0 : Int32), vI (nI c), vI (nI n), vR (0, j, h)]) (σ' := σ) fl3_ok [(37, .aload_n 0), (38, .iload_n 1), (39, .iload_n 2), (40, .iconst 0)] (by decide +kernel) rfl rfl ?_
      refine g_callV (0, j, h) [vI (nI n), vI (nI c), vI (0 : Int32)] [] vl_RX3_34 mi_X3_write (c_X3_write l (nI n) (nI c) (0 : Int32) hT) rfl rfl rfl rfl ⟨Nat.le_of_ble_eq_true rfl, Nat.le_of_ble_eq_true rfl⟩ rfl (Nat.le_of_ble_eq_true rfl) (by decide +kernel) (fun o σ1 hPσ1 => ?_)
      obtain ⟨rfl, hWσ1⟩ := hPσ1
      refine g_blk (pc' := 29) (loc' := [some (vR (0, j, h)), some (vI (nI n)), some (vI ((nI c) + (1 : Int32)))]) (st' := []) (σ' := σ1) fl3_ok [(44, .iinc 2 1), (47, .goto (-18))] (by decide +kernel) rfl rfl ?_
      have hcell : ∀ r' c', (tabs σ1 j h).2 r' c' = if r' = n ∧ c' = c then 0 else (tabs σ j h).2 r' c' := by
        intro r' c'
        rw [hWσ1.1, twr_nI (show n < (tabs σ j h).1 from by show n < tN σ j h; omega) (show c < wid j by omega) (by have := mst_le j; omega) (by have := wid_le j; omega)]
      rw [nI_1]
      have hN1 : tN σ1 j h = n + 1 := by
        have e : (tabs σ1 j h).1 = (twr (wid j) (tabs σ j h) (nI n) (nI c) 0).1 := by rw [hWσ1.1]
        exact e.trans hN
      exact ih (c + 1) σ1 (by omega) (by omega) hWσ1.2.1 hN1 (hF.tr hWσ1.2.2) (fun r' c' hr => by rw [hcell, if_neg (by omega)]; exact hA r' c' hr) (fun c' hc => by
        rw [hcell]
        split
        · rfl
        · exact hZ c' (by omega))
set_option maxHeartbeats 1000000 in
theorem c_X3_append (l : Launch) {σ : Sg} {j h : Nat} (hT : TOK σ j h) (hn : tN σ j h < mst j) : Con l 1 yX3_append cX3_append 3 (some .int) [vR (0, j, h)] σ (fun o σ' => o = some (vI (nI (tN σ j h))) ∧ TW j h (tapp (tabs σ j h)) σ σ') := by
  refine con_of pn_X3_append (Nat.le_of_ble_eq_true rfl) (fun hPK hok => ?_)
  show G l (Rm 1) RX3 cX3_append 3 (some .int) _ 0 [some (vR (0, j, h)), none, none] [] σ
  refine g_blk (pc' := 1) (loc' := [some (vR (0, j, h)), none, none]) (st' := [vR (0, j, h)]) (σ' := σ) fl3_ok [(0, .aload_n 0)] (by decide +kernel) rfl rfl ?_
  refine g_callVp (0, j, h) [] [] vl_RX3_38 mi_X3_isFull (c_X3_isFull l hT) rfl rfl rfl rfl ⟨Nat.le_of_ble_eq_true rfl, Nat.le_of_ble_eq_true rfl⟩ rfl (Nat.le_of_ble_eq_true rfl) (by decide +kernel) ?_
  refine g_if_eq (off := 6) (tgt := 10) (by decide +kernel) (by decide) (fun c4 => ?_) (fun c4 => ?_)
  · refine g_blk (pc' := 29) (loc' := [some (vR (0, j, h)), some (vI (((upd2 σ.1 (0, j, h) 3 ((σ.1 (0, j, h) 3) + (1 : Int32)), σ.2).1 (0, j, h) 3) - (1 : Int32))), some (vI (0 : Int32))]) (st' := []) (σ' := (upd2 σ.1 (0, j, h) 3 ((σ.1 (0, j, h) 3) + (1 : Int32)), σ.2)) fl3_ok [(10, .aload_n 0), (11, .dup), (12, .getfield 28), (15, .iconst 1), (16, .iadd), (17, .putfield 28), (20, .aload_n 0), (21, .getfield 28), (24, .iconst 1), (25, .isub), (26, .istore_n 1), (27, .iconst 0), (28, .istore_n 2)] (by decide +kernel) rfl rfl ?_
    generalize hσ1 : ((upd2 σ.1 (0, j, h) 3 ((σ.1 (0, j, h) 3) + (1 : Int32)), σ.2) : Sg) = σ1
    rw [hT.2, nI_1] at hσ1
    obtain ⟨h1, h2, h3, h4⟩ := tabs_rows (m := tN σ j h + 1) (by omega) hσ1
    rw [h1.2, h2, nI_pred]
    exact lp_X3_append l hn rfl (wid j + 1) 0 σ1 (Nat.zero_le _) (by omega) h1 h2 h4 (fun r' c' hr => by
      rw [h3, tabs]
      simp only
      by_cases hc : c' < wid j
      · rw [if_pos ⟨by omega, hc⟩, if_pos ⟨hr, hc⟩]
      · rw [if_neg (fun z => hc z.2), if_neg (fun z => hc z.2)]) (fun c' hc => absurd hc (Nat.not_lt_zero _))
  · rw [if_neg (by omega)] at c4
    exact absurd rfl c4
set_option maxHeartbeats 1000000 in
theorem lp_X3_removeI (l : Launch) {σ0 : Sg} {j h r0 m : Nat} (hr : r0 < m) (hmn : m < tN σ0 j h) (h30 : tN σ0 j h ≤ mst j) (kk : ∀ σ : Sg, TW j h (tN σ0 j h, fR (tabs σ0 j h) r0 (m + 1) 0) σ0 σ → G l (Rm 1) RX3 cX3_remove 4 none (fun o σ' => o = none ∧ TW j h (trem (tabs σ0 j h) r0) σ0 σ') 13 [some (vR (0, j, h)), some (vI (nI r0)), some (vI (nI (m + 1))), some (vI (nI (wid j)))] [] σ) : ∀ (k c : Nat) (σ : Sg), c ≤ wid j → wid j < c + k → TW j h (tN σ0 j h, fR (tabs σ0 j h) r0 m c) σ0 σ → G l (Rm 1) RX3 cX3_remove 4 none (fun o σ' => o = none ∧ TW j h (trem (tabs σ0 j h) r0) σ0 σ') 23 [some (vR (0, j, h)), some (vI (nI r0)), some (vI (nI m)), some (vI (nI c))] [] σ := by
  intro k
  induction k with
  | zero =>
    intro c σ hc hk hI
    exact absurd hk (by omega)
  | succ k ih =>
    intro c σ hc hk hI
    refine g_blk (pc' := 28) (loc' := [some (vR (0, j, h)), some (vI (nI r0)), some (vI (nI m)), some (vI (nI c))]) (st' := [vI (tWid j), vI (nI c)]) (σ' := σ) fl3_ok [(23, .iload_n 3), (24, .aload_n 0), (25, .getfield 15)] (by decide +kernel) rfl rfl ?_
    refine g_icmp_ge (off := 23) (tgt := 51) (by decide +kernel) (by decide) (fun c28 => ?_) (fun c28 => ?_)
    · rw [tWid_eq, nI_leI (by have := wid_le j; omega) (by have := wid_le j; omega)] at c28
      refine g_blk (pc' := 13) (loc' := [some (vR (0, j, h)), some (vI (nI r0)), some (vI ((nI m) + (1 : Int32))), some (vI (nI c))]) (st' := []) (σ' := σ) fl3_ok [(51, .iinc 2 1), (54, .goto (-41))] (by decide +kernel) rfl rfl ?_
      have ec : c = wid j := by omega
      subst ec
      rw [nI_1]
      exact kk σ ⟨by rw [hI.1, fR_next (T := tabs σ0 j h) hr (fun r c hc => tabs_can (by omega))], hI.2.1, hI.2.2⟩
    · rw [tWid_eq, nI_leI (by have := wid_le j; omega) (by have := wid_le j; omega)] at c28
      refine g_blk (pc' := 39) (loc' := [some (vR (0, j, h)), some (vI (nI r0)), some (vI (nI m)), some (vI (nI c))]) (st' := [vI (nI c), vI (nI m), vR (0, j, h), vI (nI c), vI ((nI m) - (1 : Int32)), vR (0, j, h)]) (σ' := σ) fl3_ok [(31, .aload_n 0), (32, .iload_n 2), (33, .iconst 1), (34, .isub), (35, .iload_n 3), (36, .aload_n 0), (37, .iload_n 2), (38, .iload_n 3)] (by decide +kernel) rfl rfl ?_
      refine g_callVp (0, j, h) [vI (nI m), vI (nI c)] [vI (nI c), vI ((nI m) - (1 : Int32)), vR (0, j, h)] vl_RX3_31 mi_X3_cell (c_X3_cell l (nI m) (nI c) hI.2.1) rfl rfl rfl rfl ⟨Nat.le_of_ble_eq_true rfl, Nat.le_of_ble_eq_true rfl⟩ rfl (Nat.le_of_ble_eq_true rfl) (by decide +kernel) ?_
      refine g_callV (0, j, h) [vI ((nI m) - (1 : Int32)), vI (nI c), vI (tcell (tabs σ j h) (nI m) (nI c))] [] vl_RX3_34 mi_X3_write (c_X3_write l ((nI m) - (1 : Int32)) (nI c) (tcell (tabs σ j h) (nI m) (nI c)) hI.2.1) rfl rfl rfl rfl ⟨Nat.le_of_ble_eq_true rfl, Nat.le_of_ble_eq_true rfl⟩ rfl (Nat.le_of_ble_eq_true rfl) (by decide +kernel) (fun o σ1 hPσ1 => ?_)
      obtain ⟨rfl, hWσ1⟩ := hPσ1
      refine g_blk (pc' := 23) (loc' := [some (vR (0, j, h)), some (vI (nI r0)), some (vI (nI m)), some (vI ((nI c) + (1 : Int32)))]) (st' := []) (σ' := σ1) fl3_ok [(45, .iinc 3 1), (48, .goto (-25))] (by decide +kernel) rfl rfl ?_
      rw [nI_1]
      exact ih (c + 1) σ1 (by omega) (by omega) ⟨by rw [hWσ1.1, hI.1, tcell_nI (by have := mst_le j; omega) (by have := wid_le j; omega)]; show twr (wid j) (tN σ0 j h, fR (tabs σ0 j h) r0 m c) (nI m - 1) (nI c) (fR (tabs σ0 j h) r0 m c m c) = _; rw [show fR (tabs σ0 j h) r0 m c m c = (tabs σ0 j h).2 m c from by unfold fR; rw [if_neg (by omega), if_neg (by omega)], show nI m - 1 = nI (m - 1) from by rw [show m = (m - 1) + 1 from by omega, nI_pred, Nat.add_sub_cancel], fR_step (by omega) hmn (by omega) (by have := mst_le j; omega) (by have := wid_le j; omega)], hWσ1.2.1, hI.2.2.tr hWσ1.2.2⟩
set_option maxHeartbeats 1000000 in
theorem lp_X3_remove (l : Launch) {σ0 : Sg} {j h r0 : Nat} (hrn : r0 < tN σ0 j h) (h30 : tN σ0 j h ≤ mst j) : ∀ (k m : Nat) (σ : Sg), r0 < m → m ≤ tN σ0 j h → tN σ0 j h < m + k → TW j h (tN σ0 j h, fR (tabs σ0 j h) r0 m 0) σ0 σ → G l (Rm 1) RX3 cX3_remove 4 none (fun o σ' => o = none ∧ TW j h (trem (tabs σ0 j h) r0) σ0 σ') 13 [some (vR (0, j, h)), some (vI (nI r0)), some (vI (nI m)), none] [] σ := by
  intro k
  induction k with
  | zero =>
    intro m σ hr hm hk hI
    exact absurd hk (by omega)
  | succ k ih =>
    intro m σ hr hm hk hI
    refine g_blk (pc' := 18) (loc' := [some (vR (0, j, h)), some (vI (nI r0)), some (vI (nI m)), none]) (st' := [vI (σ.1 (0, j, h) 3), vI (nI m)]) (σ' := σ) fl3_ok [(13, .iload_n 2), (14, .aload_n 0), (15, .getfield 28)] (by decide +kernel) rfl rfl ?_
    refine g_icmp_ge (off := 39) (tgt := 57) (by decide +kernel) (by decide) (fun c18 => ?_) (fun c18 => ?_)
    · have hN : tN σ j h = tN σ0 j h := congrArg Prod.fst hI.1
      rw [hI.2.1.2, hN, nI_leI (by have := mst_le j; omega) (by have := mst_le j; omega)] at c18
      refine g_blk (pc' := 67) (loc' := [some (vR (0, j, h)), some (vI (nI r0)), some (vI (nI m)), none]) (st' := []) (σ' := (upd2 σ.1 (0, j, h) 3 ((σ.1 (0, j, h) 3) - (1 : Int32)), σ.2)) fl3_ok [(57, .aload_n 0), (58, .dup), (59, .getfield 28), (62, .iconst 1), (63, .isub), (64, .putfield 28)] (by decide +kernel) rfl rfl ?_
      generalize hσ1 : ((upd2 σ.1 (0, j, h) 3 ((σ.1 (0, j, h) 3) - (1 : Int32)), σ.2) : Sg) = σ1
      have em : m = tN σ0 j h := by omega
      rw [hI.2.1.2, hN, show nI (tN σ0 j h) - 1 = nI (tN σ0 j h - 1) from by rw [show tN σ0 j h = (tN σ0 j h - 1) + 1 from by omega, nI_pred, Nat.add_sub_cancel]] at hσ1
      obtain ⟨h1, h2, h3, h4⟩ := tabs_rows (m := tN σ0 j h - 1) (by omega) hσ1
      have hfun : (tabs σ1 j h).2 = (trem (tabs σ0 j h) r0).2 := by
        funext r c
        rw [h3]
        show _ = if r < r0 then (tabs σ0 j h).2 r c else (tabs σ0 j h).2 (r + 1) c
        by_cases hin : r < tN σ0 j h - 1 ∧ c < wid j
        · rw [if_pos hin]
          have e1 : (tabs σ j h).2 r c = σ.1 (1, j, h) (r * wid j + c) := by rw [tabs]; simp only; rw [if_pos ⟨by rw [hN]; omega, hin.2⟩]
          rw [← e1, hI.1]
          show fR (tabs σ0 j h) r0 m 0 r c = _
          unfold fR
          rw [if_pos (by omega)]
        · rw [if_neg hin]
          by_cases h5 : r < r0
          · rw [if_pos h5, tabs_can (by omega)]
          · rw [if_neg h5, tabs_can (by omega)]
      exact g_vret (by decide +kernel) ⟨rfl, Prod.ext h2 hfun, h1, hI.2.2.tr h4⟩
    · have hN : tN σ j h = tN σ0 j h := congrArg Prod.fst hI.1
      rw [hI.2.1.2, hN, nI_leI (by have := mst_le j; omega) (by have := mst_le j; omega)] at c18
      refine g_blk (pc' := 23) (loc' := [some (vR (0, j, h)), some (vI (nI r0)), some (vI (nI m)), some (vI (0 : Int32))]) (st' := []) (σ' := σ) fl3_ok [(21, .iconst 0), (22, .istore_n 3)] (by decide +kernel) rfl rfl ?_
      refine g_sub (loc' := [some (vR (0, j, h)), some (vI (nI r0)), some (vI (nI m)), some (vI 0)]) ⟨Or.inr rfl, Or.inr rfl, Or.inr rfl, Or.inr rfl, trivial⟩ ?_
      exact lp_X3_removeI l hr (by omega) h30 (fun σ1 hI1 => g_sub (loc' := [some (vR (0, j, h)), some (vI (nI r0)), some (vI (nI (m + 1))), none]) ⟨Or.inr rfl, Or.inr rfl, Or.inr rfl, Or.inl rfl, trivial⟩ (ih (m + 1) σ1 (by omega) (by omega) (by omega) hI1)) (wid j + 1) 0 σ (Nat.zero_le _) (by omega) hI
set_option maxHeartbeats 1000000 in
theorem c_X3_remove (l : Launch) {σ : Sg} {j h r0 : Nat} (hT : TOK σ j h) (hr : r0 < tN σ j h) : Con l 1 yX3_remove cX3_remove 4 none [vR (0, j, h), vI (nI r0)] σ (fun o σ' => o = none ∧ TW j h (trem (tabs σ j h) r0) σ σ') := by
  refine con_of pn_X3_remove (Nat.le_of_ble_eq_true rfl) (fun hPK hok => ?_)
  show G l (Rm 1) RX3 cX3_remove 4 none _ 0 [some (vR (0, j, h)), some (vI (nI r0)), none, none] [] σ
  refine g_blk (pc' := 2) (loc' := [some (vR (0, j, h)), some (vI (nI r0)), none, none]) (st' := [vI (nI r0), vR (0, j, h)]) (σ' := σ) fl3_ok [(0, .aload_n 0), (1, .iload_n 1)] (by decide +kernel) rfl rfl ?_
  refine g_callVp (0, j, h) [vI (nI r0)] [] vl_RX3_42 mi_X3_has (c_X3_has l (nI r0) hT) rfl rfl rfl rfl ⟨Nat.le_of_ble_eq_true rfl, Nat.le_of_ble_eq_true rfl⟩ rfl (Nat.le_of_ble_eq_true rfl) (by decide +kernel) ?_
  refine g_if_ne (off := 4) (tgt := 9) (by decide +kernel) (by decide) (fun c5 => ?_) (fun c5 => ?_)
  · refine g_blk (pc' := 13) (loc' := [some (vR (0, j, h)), some (vI (nI r0)), some (vI ((nI r0) + (1 : Int32))), none]) (st' := []) (σ' := σ) fl3_ok [(9, .iload_n 1), (10, .iconst 1), (11, .iadd), (12, .istore_n 2)] (by decide +kernel) rfl rfl ?_
    rw [nI_1]
    exact lp_X3_remove l hr hT.1 (tN σ j h + 1) (r0 + 1) σ (by omega) (by omega) (by omega) ⟨by rw [fR_0]; rfl, hT, FrT.rf⟩
  · rw [hasT_in (vp_in_nI hr (by have := mst_le j; have := hT.1; omega))] at c5
    exact absurd c5 (by decide)
set_option maxHeartbeats 1000000 in
theorem c_X3_copyFrom (l : Launch) {σ : Sg} {j h h2 : Nat} (hT : TOK σ j h2) : Con l 1 yX3_copyFrom cX3_copyFrom 2 none [vR (0, j, h), vR (0, j, h2)] σ (fun o σ' => o = none ∧ TW j h (tabs σ j h2) σ σ') := by
  refine con_of pn_X3_copyFrom (Nat.le_of_ble_eq_true rfl) (fun hPK hok => ?_)
  show G l (Rm 1) RX3 cX3_copyFrom 2 none _ 0 [some (vR (0, j, h)), some (vR (0, j, h2))] [] σ
  refine g_blk (pc' := 14) (loc' := [some (vR (0, j, h)), some (vR (0, j, h2))]) (st' := [vR (1, j, h), vI (0 : Int32), vR (1, j, h), vI (0 : Int32), vR (1, j, h2)]) (σ' := σ) fl3_ok [(0, .aload_n 1), (1, .getfield 24), (4, .iconst 0), (5, .aload_n 0), (6, .getfield 24), (9, .iconst 0), (10, .aload_n 0), (11, .getfield 24)] (by decide +kernel) rfl rfl ?_
  refine g_alen (x := (0, tLen j)) rfl (Nat.le_of_ble_eq_true rfl) (by decide +kernel) ?_
  refine g_blk (pc' := 19) (loc' := [some (vR (0, j, h)), some (vR (0, j, h2))]) (st' := [vR (1, j, h2), vI (Int32.ofNat (tLen j)), vI (0 : Int32), vR (1, j, h), vI (0 : Int32), vR (1, j, h2)]) (σ' := σ) fl3_ok [(15, .aload_n 1), (16, .getfield 24)] (by decide +kernel) rfl rfl ?_
  refine g_alen (x := (0, tLen j)) rfl (Nat.le_of_ble_eq_true rfl) (by decide +kernel) ?_
  refine g_min jl_RX3_46 ⟨Nat.le_of_ble_eq_true rfl, Nat.le_of_ble_eq_true rfl⟩ (by decide +kernel) ?_
  rw [ite_self]
  have hL : tLen j < 2 ^ 31 := by rw [tLen_eq]; have := Nat.mul_le_mul (mst_le j) (wid_le j); omega
  have hcl : (Int32.ofNat (tLen j)).toNatClampNeg = tLen j := nI_clamp hL
  refine g_copy (n0 := tLen j) (n1 := tLen j) jl_RX3_49 rfl rfl (by decide) (by decide) (nI_pos hL) (by rw [hcl]; show 0 + _ ≤ _; omega) (by rw [hcl]; show 0 + _ ≤ _; omega) ⟨Nat.le_of_ble_eq_true rfl, Nat.le_of_ble_eq_true (by decide +kernel)⟩ (by decide +kernel) ?_
  show G l _ _ _ _ _ _ _ _ _ (cpS σ (1, j, h) (va_cpy (σ.1 (1, j, h2)) (σ.1 (1, j, h)) (0 : Int32).toNatClampNeg (0 : Int32).toNatClampNeg (Int32.ofNat (tLen j)).toNatClampNeg))
  generalize hσa : cpS σ (1, j, h) (va_cpy (σ.1 (1, j, h2)) (σ.1 (1, j, h)) (0 : Int32).toNatClampNeg (0 : Int32).toNatClampNeg (Int32.ofNat (tLen j)).toNatClampNeg) = σa
  refine g_blk (pc' := 34) (loc' := [some (vR (0, j, h)), some (vR (0, j, h2))]) (st' := []) (σ' := (upd2 σa.1 (0, j, h) 3 (σa.1 (0, j, h2) 3), σa.2)) fl3_ok [(26, .aload_n 0), (27, .aload_n 1), (28, .getfield 28), (31, .putfield 28)] (by decide +kernel) rfl rfl ?_
  generalize hσ1 : ((upd2 σa.1 (0, j, h) 3 (σa.1 (0, j, h2) 3), σa.2) : Sg) = σ1
  have ea : σa.1 (0, j, h2) = σ.1 (0, j, h2) := by rw [← hσa]; exact cpS_ne ne01
  have ea1 : ∀ i, i < tLen j → σa.1 (1, j, h) i = σ.1 (1, j, h2) i := by
    intro i hi
    rw [← hσa, cpS_eq, hcl]
    show (if 0 ≤ i ∧ i < 0 + tLen j then σ.1 (1, j, h2) (0 + (i - 0)) else σ.1 (1, j, h) i) = σ.1 (1, j, h2) i
    rw [if_pos (by omega), Nat.zero_add, Nat.sub_zero]
  have hF : FrT j h σ σa := ⟨fun q h1 h3 => by rw [← hσa]; exact cpS_ne h3, by rw [← hσa]; rfl⟩
  rw [ea, hT.2] at hσ1
  obtain ⟨h1, h3, h4, h5⟩ := tabs_rows (m := tN σ j h2) hT.1 hσ1
  exact g_vret (by decide +kernel) ⟨rfl, Prod.ext h3 (by
    funext r c
    rw [h4, tabs]
    simp only
    by_cases hin : r < tN σ j h2 ∧ c < wid j
    · rw [if_pos hin, if_pos hin, ea1 _ (by rw [tLen_eq]; exact flat_lt (Nat.lt_of_lt_of_le hin.1 hT.1) hin.2)]
    · rw [if_neg hin, if_neg hin]), h1, hF.tr h5⟩
