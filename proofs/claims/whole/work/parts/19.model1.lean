/-! THE MODEL: its readers (laid by wip/whole/mk19.py) -/
set_option maxHeartbeats 2000000 in
theorem c_X5_in (l : Launch) {σ : Sg} {f : Nat → Int32}  (x a b : Int32) : Con l 0 yX5_in cX5_in 3 (some .boolean) [vI x, vI a, vI b] (sa σ f) (pureP (isInS x a b) (sa σ f)) := by
  refine con_of pn_X5_in (Nat.le_of_ble_eq_true rfl) (fun hPK hok => ?_)
  show G l (Rm 0) RX5 cX5_in 3 (some .boolean) _ 0 [some (vI x), some (vI a), some (vI b)] [] (sa σ f)
  refine g_blk (pc' := 2) (loc' := [some (vI x), some (vI a), some (vI b)]) (st' := [vI a, vI x]) (σ' := sa σ f) fl5_ok [(0, .iload_n 0), (1, .iload_n 1)] (by decide +kernel) rfl rfl ?_
  refine g_icmp_lt (off := 12) (tgt := 14) (by decide +kernel) (by decide) (fun zc2 => ?_) (fun zc2 => ?_)
  · refine g_blk (pc' := 15) (loc' := [some (vI x), some (vI a), some (vI b)]) (st' := [vI (0 : Int32)]) (σ' := sa σ f) fl5_ok [(14, .iconst 0)] (by decide +kernel) rfl rfl ?_
    exact g_zret (by decide +kernel) (Or.inl rfl) (by rw [isInS, if_pos zc2]; exact ⟨rfl, rfl⟩)
  · refine g_blk (pc' := 7) (loc' := [some (vI x), some (vI a), some (vI b)]) (st' := [vI b, vI x]) (σ' := sa σ f) fl5_ok [(5, .iload_n 0), (6, .iload_n 2)] (by decide +kernel) rfl rfl ?_
    refine g_icmp_gt (off := 7) (tgt := 14) (by decide +kernel) (by decide) (fun zc7 => ?_) (fun zc7 => ?_)
    · refine g_blk (pc' := 15) (loc' := [some (vI x), some (vI a), some (vI b)]) (st' := [vI (0 : Int32)]) (σ' := sa σ f) fl5_ok [(14, .iconst 0)] (by decide +kernel) rfl rfl ?_
      exact g_zret (by decide +kernel) (Or.inl rfl) (by rw [isInS, if_neg zc2, if_pos zc7]; exact ⟨rfl, rfl⟩)
    · refine g_blk (pc' := 15) (loc' := [some (vI x), some (vI a), some (vI b)]) (st' := [vI (1 : Int32)]) (σ' := sa σ f) fl5_ok [(10, .iconst 1), (11, .goto 4)] (by decide +kernel) rfl rfl ?_
      exact g_zret (by decide +kernel) (Or.inr rfl) (by rw [isInS, if_neg zc2, if_neg zc7]; exact ⟨rfl, rfl⟩)
set_option maxHeartbeats 2000000 in
theorem c_X5_setting (l : Launch) {σ : Sg} {f : Nat → Int32} {x : Int32} {c : Nat} (hx : x = nI c) (hc : c < 4) : Con l 0 yX5_setting cX5_setting 2 (some .int) [vR (8, 0, 0), vI x] (sa σ f) (pureP (f (8 + c)) (sa σ f)) := by
  subst hx
  refine con_of pn_X5_setting (Nat.le_of_ble_eq_true rfl) (fun hPK hok => ?_)
  show G l (Rm 0) RX5 cX5_setting 2 (some .int) _ 0 [some (vR (8, 0, 0)), some (vI (nI c))] [] (sa σ f)
  refine g_blk (pc' := 8) (loc' := [some (vR (8, 0, 0)), some (vI (nI c))]) (st' := [vI ((8 : Int32) + (nI c)), vR (9, 0, 0)]) (σ' := sa σ f) fl5_ok [(0, .aload_n 0), (1, .getfield 7), (4, .bipush 8), (6, .iload_n 1), (7, .iadd)] (by decide +kernel) rfl rfl ?_
  refine g_sld (k := (8 + c)) (ix8 c) (by omega) (by decide +kernel) ?_
  exact g_iret (by decide +kernel) (by exact ⟨rfl, rfl⟩)
set_option maxHeartbeats 2000000 in
theorem c_X5_of (l : Launch) {σ : Sg} {f : Nat → Int32} {x y : Int32} {r c : Nat} (hx : x = nI r) (hy : y = nI c) (hr : r < 8) (hc : c < 6) : Con l 0 yX5_of cX5_of 3 (some .int) [vR (8, 0, 0), vI x, vI y] (sa σ f) (pureP (mo f r c) (sa σ f)) := by
  subst hx hy
  refine con_of pn_X5_of (Nat.le_of_ble_eq_true rfl) (fun hPK hok => ?_)
  show G l (Rm 0) RX5 cX5_of 3 (some .int) _ 0 [some (vR (8, 0, 0)), some (vI (nI r)), some (vI (nI c))] [] (sa σ f)
  refine g_blk (pc' := 13) (loc' := [some (vR (8, 0, 0)), some (vI (nI r)), some (vI (nI c))]) (st' := [vI (((12 : Int32) + ((6 : Int32) * (nI r))) + (nI c)), vR (9, 0, 0)]) (σ' := sa σ f) fl5_ok [(0, .aload_n 0), (1, .getfield 7), (4, .bipush 12), (6, .bipush 6), (8, .iload_n 1), (9, .imul), (10, .iadd), (11, .iload_n 2), (12, .iadd)] (by decide +kernel) rfl rfl ?_
  refine g_sld (k := (12 + 6 * r + c)) (ix6 r c) (by omega) (by decide +kernel) ?_
  exact g_iret (by decide +kernel) (by exact ⟨rfl, rfl⟩)
set_option maxHeartbeats 2000000 in
theorem c_X5_lay (l : Launch) {σ : Sg} {f : Nat → Int32} {x y : Int32} {r c : Nat} (v : Int32) (hx : x = nI r) (hy : y = nI c) (hr : r < 8) (hc : c < 6) : Con l 0 yX5_lay cX5_lay 4 none [vR (8, 0, 0), vI x, vI y, vI v] (sa σ f) (fun o σ' => o = none ∧ σ' = sa σ (so f r c v)) := by
  subst hx hy
  refine con_of pn_X5_lay (Nat.le_of_ble_eq_true rfl) (fun hPK hok => ?_)
  show G l (Rm 0) RX5 cX5_lay 4 none _ 0 [some (vR (8, 0, 0)), some (vI (nI r)), some (vI (nI c)), some (vI v)] [] (sa σ f)
  refine g_blk (pc' := 14) (loc' := [some (vR (8, 0, 0)), some (vI (nI r)), some (vI (nI c)), some (vI v)]) (st' := [vI v, vI (((12 : Int32) + ((6 : Int32) * (nI r))) + (nI c)), vR (9, 0, 0)]) (σ' := sa σ f) fl5_ok [(0, .aload_n 0), (1, .getfield 7), (4, .bipush 12), (6, .bipush 6), (8, .iload_n 1), (9, .imul), (10, .iadd), (11, .iload_n 2), (12, .iadd), (13, .iload_n 3)] (by decide +kernel) rfl rfl ?_
  refine g_sst (k := (12 + 6 * r + c)) (ix6 r c) (by omega) (by decide +kernel) ?_
  exact g_vret (by decide +kernel) (by exact ⟨rfl, rfl⟩)
set_option maxHeartbeats 2000000 in
theorem c_X5_ofArea (l : Launch) {σ : Sg} {f : Nat → Int32} {x y : Int32} {r c : Nat} (hx : x = nI r) (hy : y = nI c) (hr : r < 6) (hc : c < 5) : Con l 0 yX5_ofArea cX5_ofArea 3 (some .int) [vR (8, 0, 0), vI x, vI y] (sa σ f) (pureP (ma f r c) (sa σ f)) := by
  subst hx hy
  refine con_of pn_X5_ofArea (Nat.le_of_ble_eq_true rfl) (fun hPK hok => ?_)
  show G l (Rm 0) RX5 cX5_ofArea 3 (some .int) _ 0 [some (vR (8, 0, 0)), some (vI (nI r)), some (vI (nI c))] [] (sa σ f)
  refine g_blk (pc' := 12) (loc' := [some (vR (8, 0, 0)), some (vI (nI r)), some (vI (nI c))]) (st' := [vI (((60 : Int32) + ((5 : Int32) * (nI r))) + (nI c)), vR (9, 0, 0)]) (σ' := sa σ f) fl5_ok [(0, .aload_n 0), (1, .getfield 7), (4, .bipush 60), (6, .iconst 5), (7, .iload_n 1), (8, .imul), (9, .iadd), (10, .iload_n 2), (11, .iadd)] (by decide +kernel) rfl rfl ?_
  refine g_sld (k := (60 + 5 * r + c)) (ix60 r c) (by omega) (by decide +kernel) ?_
  exact g_iret (by decide +kernel) (by exact ⟨rfl, rfl⟩)
set_option maxHeartbeats 2000000 in
theorem c_X5_layArea (l : Launch) {σ : Sg} {f : Nat → Int32} {x y : Int32} {r c : Nat} (v : Int32) (hx : x = nI r) (hy : y = nI c) (hr : r < 6) (hc : c < 5) : Con l 0 yX5_layArea cX5_layArea 4 none [vR (8, 0, 0), vI x, vI y, vI v] (sa σ f) (fun o σ' => o = none ∧ σ' = sa σ (sA f r c v)) := by
  subst hx hy
  refine con_of pn_X5_layArea (Nat.le_of_ble_eq_true rfl) (fun hPK hok => ?_)
  show G l (Rm 0) RX5 cX5_layArea 4 none _ 0 [some (vR (8, 0, 0)), some (vI (nI r)), some (vI (nI c)), some (vI v)] [] (sa σ f)
  refine g_blk (pc' := 13) (loc' := [some (vR (8, 0, 0)), some (vI (nI r)), some (vI (nI c)), some (vI v)]) (st' := [vI v, vI (((60 : Int32) + ((5 : Int32) * (nI r))) + (nI c)), vR (9, 0, 0)]) (σ' := sa σ f) fl5_ok [(0, .aload_n 0), (1, .getfield 7), (4, .bipush 60), (6, .iconst 5), (7, .iload_n 1), (8, .imul), (9, .iadd), (10, .iload_n 2), (11, .iadd), (12, .iload_n 3)] (by decide +kernel) rfl rfl ?_
  refine g_sst (k := (60 + 5 * r + c)) (ix60 r c) (by omega) (by decide +kernel) ?_
  exact g_vret (by decide +kernel) (by exact ⟨rfl, rfl⟩)
set_option maxHeartbeats 2000000 in
theorem c_X5_ofTask (l : Launch) {σ : Sg} {f : Nat → Int32} {x y : Int32} {r c : Nat} (hx : x = nI r) (hy : y = nI c) (hr : r < 12) (hc : c < 5) : Con l 0 yX5_ofTask cX5_ofTask 3 (some .int) [vR (8, 0, 0), vI x, vI y] (sa σ f) (pureP (mk f r c) (sa σ f)) := by
  subst hx hy
  refine con_of pn_X5_ofTask (Nat.le_of_ble_eq_true rfl) (fun hPK hok => ?_)
  show G l (Rm 0) RX5 cX5_ofTask 3 (some .int) _ 0 [some (vR (8, 0, 0)), some (vI (nI r)), some (vI (nI c))] [] (sa σ f)
  refine g_blk (pc' := 12) (loc' := [some (vR (8, 0, 0)), some (vI (nI r)), some (vI (nI c))]) (st' := [vI (((90 : Int32) + ((5 : Int32) * (nI r))) + (nI c)), vR (9, 0, 0)]) (σ' := sa σ f) fl5_ok [(0, .aload_n 0), (1, .getfield 7), (4, .bipush 90), (6, .iconst 5), (7, .iload_n 1), (8, .imul), (9, .iadd), (10, .iload_n 2), (11, .iadd)] (by decide +kernel) rfl rfl ?_
  refine g_sld (k := (90 + 5 * r + c)) (ix90 r c) (by omega) (by decide +kernel) ?_
  exact g_iret (by decide +kernel) (by exact ⟨rfl, rfl⟩)
set_option maxHeartbeats 2000000 in
theorem c_X5_layTask (l : Launch) {σ : Sg} {f : Nat → Int32} {x y : Int32} {r c : Nat} (v : Int32) (hx : x = nI r) (hy : y = nI c) (hr : r < 12) (hc : c < 5) : Con l 0 yX5_layTask cX5_layTask 4 none [vR (8, 0, 0), vI x, vI y, vI v] (sa σ f) (fun o σ' => o = none ∧ σ' = sa σ (sk f r c v)) := by
  subst hx hy
  refine con_of pn_X5_layTask (Nat.le_of_ble_eq_true rfl) (fun hPK hok => ?_)
  show G l (Rm 0) RX5 cX5_layTask 4 none _ 0 [some (vR (8, 0, 0)), some (vI (nI r)), some (vI (nI c)), some (vI v)] [] (sa σ f)
  refine g_blk (pc' := 13) (loc' := [some (vR (8, 0, 0)), some (vI (nI r)), some (vI (nI c)), some (vI v)]) (st' := [vI v, vI (((90 : Int32) + ((5 : Int32) * (nI r))) + (nI c)), vR (9, 0, 0)]) (σ' := sa σ f) fl5_ok [(0, .aload_n 0), (1, .getfield 7), (4, .bipush 90), (6, .iconst 5), (7, .iload_n 1), (8, .imul), (9, .iadd), (10, .iload_n 2), (11, .iadd), (12, .iload_n 3)] (by decide +kernel) rfl rfl ?_
  refine g_sst (k := (90 + 5 * r + c)) (ix90 r c) (by omega) (by decide +kernel) ?_
  exact g_vret (by decide +kernel) (by exact ⟨rfl, rfl⟩)
set_option maxHeartbeats 2000000 in
theorem c_X5_ofSwap (l : Launch) {σ : Sg} {f : Nat → Int32} {x y : Int32} {r c : Nat} (hx : x = nI r) (hy : y = nI c) (hr : r < 6) (hc : c < 2) : Con l 0 yX5_ofSwap cX5_ofSwap 3 (some .int) [vR (8, 0, 0), vI x, vI y] (sa σ f) (pureP (mw f r c) (sa σ f)) := by
  subst hx hy
  refine con_of pn_X5_ofSwap (Nat.le_of_ble_eq_true rfl) (fun hPK hok => ?_)
  show G l (Rm 0) RX5 cX5_ofSwap 3 (some .int) _ 0 [some (vR (8, 0, 0)), some (vI (nI r)), some (vI (nI c))] [] (sa σ f)
  refine g_blk (pc' := 13) (loc' := [some (vR (8, 0, 0)), some (vI (nI r)), some (vI (nI c))]) (st' := [vI (((150 : Int32) + ((2 : Int32) * (nI r))) + (nI c)), vR (9, 0, 0)]) (σ' := sa σ f) fl5_ok [(0, .aload_n 0), (1, .getfield 7), (4, .sipush 150), (7, .iconst 2), (8, .iload_n 1), (9, .imul), (10, .iadd), (11, .iload_n 2), (12, .iadd)] (by decide +kernel) rfl rfl ?_
  refine g_sld (k := (150 + 2 * r + c)) (ix150 r c) (by omega) (by decide +kernel) ?_
  exact g_iret (by decide +kernel) (by exact ⟨rfl, rfl⟩)
set_option maxHeartbeats 2000000 in
theorem c_X5_isResident (l : Launch) {σ : Sg} {f : Nat → Int32} {n : Nat} (x : Int32) (hn : f 1 = nI n) (hn2 : n < 2 ^ 31) : Con l 0 yX5_isResident cX5_isResident 2 (some .boolean) [vR (8, 0, 0), vI x] (sa σ f) (pureP (hasT x n) (sa σ f)) := by
  refine con_of pn_X5_isResident (Nat.le_of_ble_eq_true rfl) (fun hPK hok => ?_)
  show G l (Rm 0) RX5 cX5_isResident 2 (some .boolean) _ 0 [some (vR (8, 0, 0)), some (vI x)] [] (sa σ f)
  refine g_blk (pc' := 1) (loc' := [some (vR (8, 0, 0)), some (vI x)]) (st' := [vI x]) (σ' := sa σ f) fl5_ok [(0, .iload_n 1)] (by decide +kernel) rfl rfl ?_
  refine g_if_lt (off := 17) (tgt := 18) (by decide +kernel) (by decide) (fun zc1 => ?_) (fun zc1 => ?_)
  · refine g_blk (pc' := 19) (loc' := [some (vR (8, 0, 0)), some (vI x)]) (st' := [vI (0 : Int32)]) (σ' := sa σ f) fl5_ok [(18, .iconst 0)] (by decide +kernel) rfl rfl ?_
    exact g_zret (by decide +kernel) (Or.inl rfl) (by rw [hasT_out (out_lo zc1)]; exact ⟨rfl, rfl⟩)
  · refine g_blk (pc' := 11) (loc' := [some (vR (8, 0, 0)), some (vI x)]) (st' := [vI (f 1), vI x]) (σ' := sa σ f) fl5_ok [(4, .iload_n 1), (5, .aload_n 0), (6, .getfield 7), (9, .iconst 1), (10, .iaload)] (by decide +kernel) rfl rfl ?_
    refine g_icmp_ge (off := 7) (tgt := 18) (by decide +kernel) (by decide) (fun zc11 => ?_) (fun zc11 => ?_)
    · rw [hn] at zc11
      refine g_blk (pc' := 19) (loc' := [some (vR (8, 0, 0)), some (vI x)]) (st' := [vI (0 : Int32)]) (σ' := sa σ f) fl5_ok [(18, .iconst 0)] (by decide +kernel) rfl rfl ?_
      exact g_zret (by decide +kernel) (Or.inl rfl) (by rw [hasT_out (out_hi hn2 zc11)]; exact ⟨rfl, rfl⟩)
    · rw [hn] at zc11
      refine g_blk (pc' := 19) (loc' := [some (vR (8, 0, 0)), some (vI x)]) (st' := [vI (1 : Int32)]) (σ' := sa σ f) fl5_ok [(14, .iconst 1), (15, .goto 4)] (by decide +kernel) rfl rfl ?_
      obtain ⟨r, hr, rfl⟩ := in_of hn2 zc1 zc11
      exact g_zret (by decide +kernel) (Or.inr rfl) (by rw [hasT_in (vp_in_nI hr (by omega))]; exact ⟨rfl, rfl⟩)
set_option maxHeartbeats 2000000 in
theorem c_X5_isArea (l : Launch) {σ : Sg} {f : Nat → Int32} {n : Nat} (x : Int32) (hn : f 2 = nI n) (hn2 : n < 2 ^ 31) : Con l 0 yX5_isArea cX5_isArea 2 (some .boolean) [vR (8, 0, 0), vI x] (sa σ f) (pureP (hasT x n) (sa σ f)) := by
  refine con_of pn_X5_isArea (Nat.le_of_ble_eq_true rfl) (fun hPK hok => ?_)
  show G l (Rm 0) RX5 cX5_isArea 2 (some .boolean) _ 0 [some (vR (8, 0, 0)), some (vI x)] [] (sa σ f)
  refine g_blk (pc' := 1) (loc' := [some (vR (8, 0, 0)), some (vI x)]) (st' := [vI x]) (σ' := sa σ f) fl5_ok [(0, .iload_n 1)] (by decide +kernel) rfl rfl ?_
  refine g_if_lt (off := 17) (tgt := 18) (by decide +kernel) (by decide) (fun zc1 => ?_) (fun zc1 => ?_)
  · refine g_blk (pc' := 19) (loc' := [some (vR (8, 0, 0)), some (vI x)]) (st' := [vI (0 : Int32)]) (σ' := sa σ f) fl5_ok [(18, .iconst 0)] (by decide +kernel) rfl rfl ?_
    exact g_zret (by decide +kernel) (Or.inl rfl) (by rw [hasT_out (out_lo zc1)]; exact ⟨rfl, rfl⟩)
  · refine g_blk (pc' := 11) (loc' := [some (vR (8, 0, 0)), some (vI x)]) (st' := [vI (f 2), vI x]) (σ' := sa σ f) fl5_ok [(4, .iload_n 1), (5, .aload_n 0), (6, .getfield 7), (9, .iconst 2), (10, .iaload)] (by decide +kernel) rfl rfl ?_
    refine g_icmp_ge (off := 7) (tgt := 18) (by decide +kernel) (by decide) (fun zc11 => ?_) (fun zc11 => ?_)
    · rw [hn] at zc11
      refine g_blk (pc' := 19) (loc' := [some (vR (8, 0, 0)), some (vI x)]) (st' := [vI (0 : Int32)]) (σ' := sa σ f) fl5_ok [(18, .iconst 0)] (by decide +kernel) rfl rfl ?_
      exact g_zret (by decide +kernel) (Or.inl rfl) (by rw [hasT_out (out_hi hn2 zc11)]; exact ⟨rfl, rfl⟩)
    · rw [hn] at zc11
      refine g_blk (pc' := 19) (loc' := [some (vR (8, 0, 0)), some (vI x)]) (st' := [vI (1 : Int32)]) (σ' := sa σ f) fl5_ok [(14, .iconst 1), (15, .goto 4)] (by decide +kernel) rfl rfl ?_
      obtain ⟨r, hr, rfl⟩ := in_of hn2 zc1 zc11
      exact g_zret (by decide +kernel) (Or.inr rfl) (by rw [hasT_in (vp_in_nI hr (by omega))]; exact ⟨rfl, rfl⟩)
set_option maxHeartbeats 2000000 in
theorem c_X5_isTask (l : Launch) {σ : Sg} {f : Nat → Int32} {n : Nat} (x : Int32) (hn : f 3 = nI n) (hn2 : n < 2 ^ 31) : Con l 0 yX5_isTask cX5_isTask 2 (some .boolean) [vR (8, 0, 0), vI x] (sa σ f) (pureP (hasT x n) (sa σ f)) := by
  refine con_of pn_X5_isTask (Nat.le_of_ble_eq_true rfl) (fun hPK hok => ?_)
  show G l (Rm 0) RX5 cX5_isTask 2 (some .boolean) _ 0 [some (vR (8, 0, 0)), some (vI x)] [] (sa σ f)
  refine g_blk (pc' := 1) (loc' := [some (vR (8, 0, 0)), some (vI x)]) (st' := [vI x]) (σ' := sa σ f) fl5_ok [(0, .iload_n 1)] (by decide +kernel) rfl rfl ?_
  refine g_if_lt (off := 17) (tgt := 18) (by decide +kernel) (by decide) (fun zc1 => ?_) (fun zc1 => ?_)
  · refine g_blk (pc' := 19) (loc' := [some (vR (8, 0, 0)), some (vI x)]) (st' := [vI (0 : Int32)]) (σ' := sa σ f) fl5_ok [(18, .iconst 0)] (by decide +kernel) rfl rfl ?_
    exact g_zret (by decide +kernel) (Or.inl rfl) (by rw [hasT_out (out_lo zc1)]; exact ⟨rfl, rfl⟩)
  · refine g_blk (pc' := 11) (loc' := [some (vR (8, 0, 0)), some (vI x)]) (st' := [vI (f 3), vI x]) (σ' := sa σ f) fl5_ok [(4, .iload_n 1), (5, .aload_n 0), (6, .getfield 7), (9, .iconst 3), (10, .iaload)] (by decide +kernel) rfl rfl ?_
    refine g_icmp_ge (off := 7) (tgt := 18) (by decide +kernel) (by decide) (fun zc11 => ?_) (fun zc11 => ?_)
    · rw [hn] at zc11
      refine g_blk (pc' := 19) (loc' := [some (vR (8, 0, 0)), some (vI x)]) (st' := [vI (0 : Int32)]) (σ' := sa σ f) fl5_ok [(18, .iconst 0)] (by decide +kernel) rfl rfl ?_
      exact g_zret (by decide +kernel) (Or.inl rfl) (by rw [hasT_out (out_hi hn2 zc11)]; exact ⟨rfl, rfl⟩)
    · rw [hn] at zc11
      refine g_blk (pc' := 19) (loc' := [some (vR (8, 0, 0)), some (vI x)]) (st' := [vI (1 : Int32)]) (σ' := sa σ f) fl5_ok [(14, .iconst 1), (15, .goto 4)] (by decide +kernel) rfl rfl ?_
      obtain ⟨r, hr, rfl⟩ := in_of hn2 zc1 zc11
      exact g_zret (by decide +kernel) (Or.inr rfl) (by rw [hasT_in (vp_in_nI hr (by omega))]; exact ⟨rfl, rfl⟩)
set_option maxHeartbeats 2000000 in
theorem c_X5_isAway (l : Launch) {σ : Sg} {f : Nat → Int32} {x : Int32} {r : Nat} (hx : x = nI r) (hr : r < 8) : Con l 1 yX5_isAway cX5_isAway 2 (some .boolean) [vR (8, 0, 0), vI x] (sa σ f) (pureP (awayM f r) (sa σ f)) := by
  subst hx
  refine con_of pn_X5_isAway (Nat.le_of_ble_eq_true rfl) (fun hPK hok => ?_)
  show G l (Rm 1) RX5 cX5_isAway 2 (some .boolean) _ 0 [some (vR (8, 0, 0)), some (vI (nI r))] [] (sa σ f)
  refine g_blk (pc' := 9) (loc' := [some (vR (8, 0, 0)), some (vI (nI r))]) (st' := [vI (4 : Int32), vI (nI r), vR (8, 0, 0), vI (f 0)]) (σ' := sa σ f) fl5_ok [(0, .aload_n 0), (1, .getfield 7), (4, .iconst 0), (5, .iaload), (6, .aload_n 0), (7, .iload_n 1), (8, .iconst 4)] (by decide +kernel) rfl rfl ?_
  refine g_callVp (8, 0, 0) [vI (nI r), vI (4 : Int32)] [vI (f 0)] vl_RX5_44 mi_X5_of (c_X5_of l (r := r) (c := 4) rfl rfl (by omega) (by omega)) rfl rfl rfl rfl ⟨Nat.le_of_ble_eq_true rfl, Nat.le_of_ble_eq_true rfl⟩ rfl (Nat.le_of_ble_eq_true rfl) (by decide +kernel) ?_
  refine g_blk (pc' := 15) (loc' := [some (vR (8, 0, 0)), some (vI (nI r))]) (st' := [vI (5 : Int32), vI (nI r), vR (8, 0, 0), vI (mo f r 4), vI (f 0)]) (σ' := sa σ f) fl5_ok [(12, .aload_n 0), (13, .iload_n 1), (14, .iconst 5)] (by decide +kernel) rfl rfl ?_
  refine g_callVp (8, 0, 0) [vI (nI r), vI (5 : Int32)] [vI (mo f r 4), vI (f 0)] vl_RX5_44 mi_X5_of (c_X5_of l (r := r) (c := 5) rfl rfl (by omega) (by omega)) rfl rfl rfl rfl ⟨Nat.le_of_ble_eq_true rfl, Nat.le_of_ble_eq_true rfl⟩ rfl (Nat.le_of_ble_eq_true rfl) (by decide +kernel) ?_
  refine g_callSp [vI (f 0), vI (mo f r 4), vI (mo f r 5)] [] sl_RX5_29 mi_X5_in (c_X5_in l (f 0) (mo f r 4) (mo f r 5)) rfl ⟨Nat.le_of_ble_eq_true rfl, Nat.le_of_ble_eq_true rfl⟩ rfl (Nat.le_of_ble_eq_true rfl) (by decide +kernel) ?_
  exact g_zret (by decide +kernel) (isInS_bit _ _ _) (by exact ⟨rfl, rfl⟩)
set_option maxHeartbeats 2000000 in
theorem c_X5_isDue (l : Launch) {σ : Sg} {f : Nat → Int32} {x : Int32} {a : Nat} (hx : x = nI a) (ha : a < 6) (hp : ¬ ma f a 1 = 0) : Con l 1 yX5_isDue cX5_isDue 2 (some .boolean) [vR (8, 0, 0), vI x] (sa σ f) (pureP (dueM f a) (sa σ f)) := by
  subst hx
  refine con_of pn_X5_isDue (Nat.le_of_ble_eq_true rfl) (fun hPK hok => ?_)
  show G l (Rm 1) RX5 cX5_isDue 2 (some .boolean) _ 0 [some (vR (8, 0, 0)), some (vI (nI a))] [] (sa σ f)
  refine g_blk (pc' := 9) (loc' := [some (vR (8, 0, 0)), some (vI (nI a))]) (st' := [vI (1 : Int32), vI (nI a), vR (8, 0, 0), vI (f 0)]) (σ' := sa σ f) fl5_ok [(0, .aload_n 0), (1, .getfield 7), (4, .iconst 0), (5, .iaload), (6, .aload_n 0), (7, .iload_n 1), (8, .iconst 1)] (by decide +kernel) rfl rfl ?_
  refine g_callVp (8, 0, 0) [vI (nI a), vI (1 : Int32)] [vI (f 0)] vl_RX5_62 mi_X5_ofArea (c_X5_ofArea l (r := a) (c := 1) rfl rfl (by omega) (by omega)) rfl rfl rfl rfl ⟨Nat.le_of_ble_eq_true rfl, Nat.le_of_ble_eq_true rfl⟩ rfl (Nat.le_of_ble_eq_true rfl) (by decide +kernel) ?_
  refine g_remS (hy := hp) (hd := by decide +kernel) (k := ?_)
  refine g_blk (pc' := 17) (loc' := [some (vR (8, 0, 0)), some (vI (nI a))]) (st' := [vI (1 : Int32), vI (nI a), vR (8, 0, 0), vI (nI a), vI (remS (f 0) (ma f a 1))]) (σ' := sa σ f) fl5_ok [(13, .iload_n 1), (14, .aload_n 0), (15, .iload_n 1), (16, .iconst 1)] (by decide +kernel) rfl rfl ?_
  refine g_callVp (8, 0, 0) [vI (nI a), vI (1 : Int32)] [vI (nI a), vI (remS (f 0) (ma f a 1))] vl_RX5_62 mi_X5_ofArea (c_X5_ofArea l (r := a) (c := 1) rfl rfl (by omega) (by omega)) rfl rfl rfl rfl ⟨Nat.le_of_ble_eq_true rfl, Nat.le_of_ble_eq_true rfl⟩ rfl (Nat.le_of_ble_eq_true rfl) (by decide +kernel) ?_
  refine g_remS (hy := hp) (hd := by decide +kernel) (k := ?_)
  refine g_icmp_ne (off := 7) (tgt := 28) (by decide +kernel) (by decide) (fun zc21 => ?_) (fun zc21 => ?_)
  · refine g_blk (pc' := 29) (loc' := [some (vR (8, 0, 0)), some (vI (nI a))]) (st' := [vI (0 : Int32)]) (σ' := sa σ f) fl5_ok [(28, .iconst 0)] (by decide +kernel) rfl rfl ?_
    exact g_zret (by decide +kernel) (Or.inl rfl) (by rw [dueM, if_pos zc21]; exact ⟨rfl, rfl⟩)
  · refine g_blk (pc' := 29) (loc' := [some (vR (8, 0, 0)), some (vI (nI a))]) (st' := [vI (1 : Int32)]) (σ' := sa σ f) fl5_ok [(24, .iconst 1), (25, .goto 4)] (by decide +kernel) rfl rfl ?_
    exact g_zret (by decide +kernel) (Or.inr rfl) (by rw [dueM, if_neg (not_not_intro zc21)]; exact ⟨rfl, rfl⟩)
set_option maxHeartbeats 2000000 in
theorem c_X5_needsDeep (l : Launch) {σ : Sg} {f : Nat → Int32} {x : Int32} {a : Nat} (hx : x = nI a) (ha : a < 6) : Con l 1 yX5_needsDeep cX5_needsDeep 2 (some .boolean) [vR (8, 0, 0), vI x] (sa σ f) (pureP (deepM f a) (sa σ f)) := by
  subst hx
  refine con_of pn_X5_needsDeep (Nat.le_of_ble_eq_true rfl) (fun hPK hok => ?_)
  show G l (Rm 1) RX5 cX5_needsDeep 2 (some .boolean) _ 0 [some (vR (8, 0, 0)), some (vI (nI a))] [] (sa σ f)
  refine g_blk (pc' := 3) (loc' := [some (vR (8, 0, 0)), some (vI (nI a))]) (st' := [vI (3 : Int32), vI (nI a), vR (8, 0, 0)]) (σ' := sa σ f) fl5_ok [(0, .aload_n 0), (1, .iload_n 1), (2, .iconst 3)] (by decide +kernel) rfl rfl ?_
  refine g_callVp (8, 0, 0) [vI (nI a), vI (3 : Int32)] [] vl_RX5_62 mi_X5_ofArea (c_X5_ofArea l (r := a) (c := 3) rfl rfl (by omega) (by omega)) rfl rfl rfl rfl ⟨Nat.le_of_ble_eq_true rfl, Nat.le_of_ble_eq_true rfl⟩ rfl (Nat.le_of_ble_eq_true rfl) (by decide +kernel) ?_
  refine g_blk (pc' := 8) (loc' := [some (vR (8, 0, 0)), some (vI (nI a))]) (st' := [vI (3 : Int32), vR (8, 0, 0), vI (ma f a 3)]) (σ' := sa σ f) fl5_ok [(6, .aload_n 0), (7, .iconst 3)] (by decide +kernel) rfl rfl ?_
  refine g_callVp (8, 0, 0) [vI (3 : Int32)] [vI (ma f a 3)] vl_RX5_58 mi_X5_setting (c_X5_setting l (c := 3) rfl (by omega)) rfl rfl rfl rfl ⟨Nat.le_of_ble_eq_true rfl, Nat.le_of_ble_eq_true rfl⟩ rfl (Nat.le_of_ble_eq_true rfl) (by decide +kernel) ?_
  refine g_icmp_lt (off := 7) (tgt := 18) (by decide +kernel) (by decide) (fun zc11 => ?_) (fun zc11 => ?_)
  · refine g_blk (pc' := 19) (loc' := [some (vR (8, 0, 0)), some (vI (nI a))]) (st' := [vI (0 : Int32)]) (σ' := sa σ f) fl5_ok [(18, .iconst 0)] (by decide +kernel) rfl rfl ?_
    exact g_zret (by decide +kernel) (Or.inl rfl) (by rw [deepM, if_pos zc11]; exact ⟨rfl, rfl⟩)
  · refine g_blk (pc' := 19) (loc' := [some (vR (8, 0, 0)), some (vI (nI a))]) (st' := [vI (1 : Int32)]) (σ' := sa σ f) fl5_ok [(14, .iconst 1), (15, .goto 4)] (by decide +kernel) rfl rfl ?_
    exact g_zret (by decide +kernel) (Or.inr rfl) (by rw [deepM, if_neg zc11]; exact ⟨rfl, rfl⟩)
set_option maxHeartbeats 2000000 in
theorem lp_X5_loadOf (l : Launch) {σ : Sg} {f : Nat → Int32} {r nt : Nat} (hr : r < 8) (hnt : f 3 = nI nt) (h12 : nt ≤ 12) : ∀ (k t : Nat), t + k = nt → G l (Rm 1) RX5 cX5_loadOf 4 (some .int) (pureP (lm f r nt) (sa σ f)) 9 [some (vR (8, 0, 0)), some (vI (nI r)), some (vI (lm f r t)), some (vI (nI t))] [] (sa σ f) := by
  intro k
  induction k with
  | zero =>
    intro t hk
    refine g_blk (pc' := 16) (loc' := [some (vR (8, 0, 0)), some (vI (nI r)), some (vI (lm f r t)), some (vI (nI t))]) (st' := [vI (f 3), vI (nI t)]) (σ' := sa σ f) fl5_ok [(9, .iload_n 3), (10, .aload_n 0), (11, .getfield 7), (14, .iconst 3), (15, .iaload)] (by decide +kernel) rfl rfl ?_
    refine g_icmp_ge (off := 41) (tgt := 57) (by decide +kernel) (by decide) (fun zc16 => ?_) (fun zc16 => ?_)
    · rw [hnt, nI_leI (by omega) (by omega)] at zc16
      refine g_blk (pc' := 58) (loc' := [some (vR (8, 0, 0)), some (vI (nI r)), some (vI (lm f r t)), some (vI (nI t))]) (st' := [vI (lm f r t)]) (σ' := sa σ f) fl5_ok [(57, .iload_n 2)] (by decide +kernel) rfl rfl ?_
      obtain rfl : t = nt := by omega
      exact g_iret (by decide +kernel) ⟨rfl, rfl⟩
    · rw [hnt, nI_leI (by omega) (by omega)] at zc16
      exact absurd (by omega) zc16
  | succ k ih =>
    intro t hk
    refine g_blk (pc' := 16) (loc' := [some (vR (8, 0, 0)), some (vI (nI r)), some (vI (lm f r t)), some (vI (nI t))]) (st' := [vI (f 3), vI (nI t)]) (σ' := sa σ f) fl5_ok [(9, .iload_n 3), (10, .aload_n 0), (11, .getfield 7), (14, .iconst 3), (15, .iaload)] (by decide +kernel) rfl rfl ?_
    refine g_icmp_ge (off := 41) (tgt := 57) (by decide +kernel) (by decide) (fun zc16 => ?_) (fun zc16 => ?_)
    · rw [hnt, nI_leI (by omega) (by omega)] at zc16
      exact absurd zc16 (by omega)
    · rw [hnt, nI_leI (by omega) (by omega)] at zc16
      refine g_blk (pc' := 23) (loc' := [some (vR (8, 0, 0)), some (vI (nI r)), some (vI (lm f r t)), some (vI (nI t))]) (st' := [vI (1 : Int32), vI (nI t), vR (8, 0, 0), vI (lm f r t)]) (σ' := sa σ f) fl5_ok [(19, .iload_n 2), (20, .aload_n 0), (21, .iload_n 3), (22, .iconst 1)] (by decide +kernel) rfl rfl ?_
      refine g_callVp (8, 0, 0) [vI (nI t), vI (1 : Int32)] [vI (lm f r t)] vl_RX5_65 mi_X5_ofTask (c_X5_ofTask l (r := t) (c := 1) rfl rfl (by omega) (by omega)) rfl rfl rfl rfl ⟨Nat.le_of_ble_eq_true rfl, Nat.le_of_ble_eq_true rfl⟩ rfl (Nat.le_of_ble_eq_true rfl) (by decide +kernel) ?_
      refine g_blk (pc' := 27) (loc' := [some (vR (8, 0, 0)), some (vI (nI r)), some (vI (lm f r t)), some (vI (nI t))]) (st' := [vI (nI r), vI (mk f t 1), vI (lm f r t)]) (σ' := sa σ f) fl5_ok [(26, .iload_n 1)] (by decide +kernel) rfl rfl ?_
      refine g_icmp_ne (off := 21) (tgt := 48) (by decide +kernel) (by decide) (fun zc27 => ?_) (fun zc27 => ?_)
      · refine g_blk (pc' := 9) (loc' := [some (vR (8, 0, 0)), some (vI (nI r)), some (vI ((lm f r t) + (0 : Int32))), some (vI ((nI t) + (1 : Int32)))]) (st' := []) (σ' := sa σ f) fl5_ok [(48, .iconst 0), (49, .iadd), (50, .istore_n 2), (51, .iinc 3 1), (54, .goto (-45))] (by decide +kernel) rfl rfl ?_
        have hstep : lm f r (t + 1) = (lm f r t) + (0 : Int32) := by rw [lm, if_pos zc27]
        have hih := ih (t + 1) (by omega)
        rw [hstep] at hih
        rw [nI_1]
        exact hih
      · refine g_blk (pc' := 33) (loc' := [some (vR (8, 0, 0)), some (vI (nI r)), some (vI (lm f r t)), some (vI (nI t))]) (st' := [vI (3 : Int32), vI (nI t), vR (8, 0, 0), vI (lm f r t)]) (σ' := sa σ f) fl5_ok [(30, .aload_n 0), (31, .iload_n 3), (32, .iconst 3)] (by decide +kernel) rfl rfl ?_
        refine g_callVp (8, 0, 0) [vI (nI t), vI (3 : Int32)] [vI (lm f r t)] vl_RX5_65 mi_X5_ofTask (c_X5_ofTask l (r := t) (c := 3) rfl rfl (by omega) (by omega)) rfl rfl rfl rfl ⟨Nat.le_of_ble_eq_true rfl, Nat.le_of_ble_eq_true rfl⟩ rfl (Nat.le_of_ble_eq_true rfl) (by decide +kernel) ?_
        refine g_if_ne (off := 12) (tgt := 48) (by decide +kernel) (by decide) (fun zc36 => ?_) (fun zc36 => ?_)
        · refine g_blk (pc' := 9) (loc' := [some (vR (8, 0, 0)), some (vI (nI r)), some (vI ((lm f r t) + (0 : Int32))), some (vI ((nI t) + (1 : Int32)))]) (st' := []) (σ' := sa σ f) fl5_ok [(48, .iconst 0), (49, .iadd), (50, .istore_n 2), (51, .iinc 3 1), (54, .goto (-45))] (by decide +kernel) rfl rfl ?_
          have hstep : lm f r (t + 1) = (lm f r t) + (0 : Int32) := by rw [lm, if_neg (not_not_intro zc27), if_pos zc36]
          have hih := ih (t + 1) (by omega)
          rw [hstep] at hih
          rw [nI_1]
          exact hih
        · refine g_blk (pc' := 42) (loc' := [some (vR (8, 0, 0)), some (vI (nI r)), some (vI (lm f r t)), some (vI (nI t))]) (st' := [vI (2 : Int32), vI (nI t), vR (8, 0, 0), vI (lm f r t)]) (σ' := sa σ f) fl5_ok [(39, .aload_n 0), (40, .iload_n 3), (41, .iconst 2)] (by decide +kernel) rfl rfl ?_
          refine g_callVp (8, 0, 0) [vI (nI t), vI (2 : Int32)] [vI (lm f r t)] vl_RX5_65 mi_X5_ofTask (c_X5_ofTask l (r := t) (c := 2) rfl rfl (by omega) (by omega)) rfl rfl rfl rfl ⟨Nat.le_of_ble_eq_true rfl, Nat.le_of_ble_eq_true rfl⟩ rfl (Nat.le_of_ble_eq_true rfl) (by decide +kernel) ?_
          refine g_blk (pc' := 9) (loc' := [some (vR (8, 0, 0)), some (vI (nI r)), some (vI ((lm f r t) + (mk f t 2))), some (vI ((nI t) + (1 : Int32)))]) (st' := []) (σ' := sa σ f) fl5_ok [(45, .goto 4), (49, .iadd), (50, .istore_n 2), (51, .iinc 3 1), (54, .goto (-45))] (by decide +kernel) rfl rfl ?_
          have hstep : lm f r (t + 1) = (lm f r t) + (mk f t 2) := by rw [lm, if_neg (not_not_intro zc27), if_neg (not_not_intro zc36)]
          have hih := ih (t + 1) (by omega)
          rw [hstep] at hih
          rw [nI_1]
          exact hih
set_option maxHeartbeats 2000000 in
theorem c_X5_loadOf (l : Launch) {σ : Sg} {f : Nat → Int32} {x : Int32} {r nt : Nat} (hx : x = nI r) (hr : r < 8) (hnt : f 3 = nI nt) (h12 : nt ≤ 12) : Con l 1 yX5_loadOf cX5_loadOf 4 (some .int) [vR (8, 0, 0), vI x] (sa σ f) (pureP (lm f r nt) (sa σ f)) := by
  subst hx
  refine con_of pn_X5_loadOf (Nat.le_of_ble_eq_true rfl) (fun hPK hok => ?_)
  show G l (Rm 1) RX5 cX5_loadOf 4 (some .int) _ 0 [some (vR (8, 0, 0)), some (vI (nI r)), none, none] [] (sa σ f)
  refine g_blk (pc' := 3) (loc' := [some (vR (8, 0, 0)), some (vI (nI r)), none, none]) (st' := [vI (1 : Int32), vI (nI r), vR (8, 0, 0)]) (σ' := sa σ f) fl5_ok [(0, .aload_n 0), (1, .iload_n 1), (2, .iconst 1)] (by decide +kernel) rfl rfl ?_
  refine g_callVp (8, 0, 0) [vI (nI r), vI (1 : Int32)] [] vl_RX5_44 mi_X5_of (c_X5_of l (r := r) (c := 1) rfl rfl (by omega) (by omega)) rfl rfl rfl rfl ⟨Nat.le_of_ble_eq_true rfl, Nat.le_of_ble_eq_true rfl⟩ rfl (Nat.le_of_ble_eq_true rfl) (by decide +kernel) ?_
  refine g_blk (pc' := 9) (loc' := [some (vR (8, 0, 0)), some (vI (nI r)), some (vI (mo f r 1)), some (vI (0 : Int32))]) (st' := []) (σ' := sa σ f) fl5_ok [(6, .istore_n 2), (7, .iconst 0), (8, .istore_n 3)] (by decide +kernel) rfl rfl ?_
  exact lp_X5_loadOf l hr hnt h12 nt 0 (by omega)
set_option maxHeartbeats 2000000 in
theorem c_X5_isAhead (l : Launch) {σ : Sg} {f : Nat → Int32} {x y : Int32} {r o nt : Nat} (hx : x = nI r) (hy : y = nI o) (hr : r < 8) (ho : o < 8) (hnt : f 3 = nI nt) (h12 : nt ≤ 12) : Con l 2 yX5_isAhead cX5_isAhead 5 (some .boolean) [vR (8, 0, 0), vI x, vI y] (sa σ f) (pureP (aheadM f r o nt) (sa σ f)) := by
  subst hx hy
  refine con_of pn_X5_isAhead (Nat.le_of_ble_eq_true rfl) (fun hPK hok => ?_)
  show G l (Rm 2) RX5 cX5_isAhead 5 (some .boolean) _ 0 [some (vR (8, 0, 0)), some (vI (nI r)), some (vI (nI o)), none, none] [] (sa σ f)
  refine g_blk (pc' := 2) (loc' := [some (vR (8, 0, 0)), some (vI (nI r)), some (vI (nI o)), none, none]) (st' := [vI (nI r), vR (8, 0, 0)]) (σ' := sa σ f) fl5_ok [(0, .aload_n 0), (1, .iload_n 1)] (by decide +kernel) rfl rfl ?_
  refine g_callVp (8, 0, 0) [vI (nI r)] [] vl_RX5_71 mi_X5_loadOf (c_X5_loadOf l (r := r) rfl (by omega) hnt (by omega)) rfl rfl rfl rfl ⟨Nat.le_of_ble_eq_true rfl, Nat.le_of_ble_eq_true rfl⟩ rfl (Nat.le_of_ble_eq_true rfl) (by decide +kernel) ?_
  refine g_blk (pc' := 8) (loc' := [some (vR (8, 0, 0)), some (vI (nI r)), some (vI (nI o)), none, none]) (st' := [vI (0 : Int32), vI (nI o), vR (8, 0, 0), vI (lm f r nt)]) (σ' := sa σ f) fl5_ok [(5, .aload_n 0), (6, .iload_n 2), (7, .iconst 0)] (by decide +kernel) rfl rfl ?_
  refine g_callVp (8, 0, 0) [vI (nI o), vI (0 : Int32)] [vI (lm f r nt)] vl_RX5_44 mi_X5_of (c_X5_of l (r := o) (c := 0) rfl rfl (by omega) (by omega)) rfl rfl rfl rfl ⟨Nat.le_of_ble_eq_true rfl, Nat.le_of_ble_eq_true rfl⟩ rfl (Nat.le_of_ble_eq_true rfl) (by decide +kernel) ?_
  refine g_blk (pc' := 15) (loc' := [some (vR (8, 0, 0)), some (vI (nI r)), some (vI (nI o)), some (vI ((lm f r nt) * (mo f o 0))), none]) (st' := [vI (nI o), vR (8, 0, 0)]) (σ' := sa σ f) fl5_ok [(11, .imul), (12, .istore_n 3), (13, .aload_n 0), (14, .iload_n 2)] (by decide +kernel) rfl rfl ?_
  refine g_callVp (8, 0, 0) [vI (nI o)] [] vl_RX5_71 mi_X5_loadOf (c_X5_loadOf l (r := o) rfl (by omega) hnt (by omega)) rfl rfl rfl rfl ⟨Nat.le_of_ble_eq_true rfl, Nat.le_of_ble_eq_true rfl⟩ rfl (Nat.le_of_ble_eq_true rfl) (by decide +kernel) ?_
  refine g_blk (pc' := 21) (loc' := [some (vR (8, 0, 0)), some (vI (nI r)), some (vI (nI o)), some (vI ((lm f r nt) * (mo f o 0))), none]) (st' := [vI (0 : Int32), vI (nI r), vR (8, 0, 0), vI (lm f o nt)]) (σ' := sa σ f) fl5_ok [(18, .aload_n 0), (19, .iload_n 1), (20, .iconst 0)] (by decide +kernel) rfl rfl ?_
  refine g_callVp (8, 0, 0) [vI (nI r), vI (0 : Int32)] [vI (lm f o nt)] vl_RX5_44 mi_X5_of (c_X5_of l (r := r) (c := 0) rfl rfl (by omega) (by omega)) rfl rfl rfl rfl ⟨Nat.le_of_ble_eq_true rfl, Nat.le_of_ble_eq_true rfl⟩ rfl (Nat.le_of_ble_eq_true rfl) (by decide +kernel) ?_
  refine g_blk (pc' := 30) (loc' := [some (vR (8, 0, 0)), some (vI (nI r)), some (vI (nI o)), some (vI ((lm f r nt) * (mo f o 0))), some (vI ((lm f o nt) * (mo f r 0)))]) (st' := [vI ((lm f o nt) * (mo f r 0)), vI ((lm f r nt) * (mo f o 0))]) (σ' := sa σ f) fl5_ok [(24, .imul), (25, .istore 4), (27, .iload_n 3), (28, .iload 4)] (by decide +kernel) rfl rfl ?_
  refine g_icmp_eq (off := 15) (tgt := 45) (by decide +kernel) (by decide) (fun zc30 => ?_) (fun zc30 => ?_)
  · refine g_blk (pc' := 48) (loc' := [some (vR (8, 0, 0)), some (vI (nI r)), some (vI (nI o)), some (vI ((lm f r nt) * (mo f o 0))), some (vI ((lm f o nt) * (mo f r 0)))]) (st' := [vI (2 : Int32), vI (nI r), vR (8, 0, 0)]) (σ' := sa σ f) fl5_ok [(45, .aload_n 0), (46, .iload_n 1), (47, .iconst 2)] (by decide +kernel) rfl rfl ?_
    refine g_callVp (8, 0, 0) [vI (nI r), vI (2 : Int32)] [] vl_RX5_44 mi_X5_of (c_X5_of l (r := r) (c := 2) rfl rfl (by omega) (by omega)) rfl rfl rfl rfl ⟨Nat.le_of_ble_eq_true rfl, Nat.le_of_ble_eq_true rfl⟩ rfl (Nat.le_of_ble_eq_true rfl) (by decide +kernel) ?_
    refine g_blk (pc' := 54) (loc' := [some (vR (8, 0, 0)), some (vI (nI r)), some (vI (nI o)), some (vI ((lm f r nt) * (mo f o 0))), some (vI ((lm f o nt) * (mo f r 0)))]) (st' := [vI (2 : Int32), vI (nI o), vR (8, 0, 0), vI (mo f r 2)]) (σ' := sa σ f) fl5_ok [(51, .aload_n 0), (52, .iload_n 2), (53, .iconst 2)] (by decide +kernel) rfl rfl ?_
    refine g_callVp (8, 0, 0) [vI (nI o), vI (2 : Int32)] [vI (mo f r 2)] vl_RX5_44 mi_X5_of (c_X5_of l (r := o) (c := 2) rfl rfl (by omega) (by omega)) rfl rfl rfl rfl ⟨Nat.le_of_ble_eq_true rfl, Nat.le_of_ble_eq_true rfl⟩ rfl (Nat.le_of_ble_eq_true rfl) (by decide +kernel) ?_
    refine g_icmp_eq (off := 26) (tgt := 83) (by decide +kernel) (by decide) (fun zc57 => ?_) (fun zc57 => ?_)
    · refine g_blk (pc' := 85) (loc' := [some (vR (8, 0, 0)), some (vI (nI r)), some (vI (nI o)), some (vI ((lm f r nt) * (mo f o 0))), some (vI ((lm f o nt) * (mo f r 0)))]) (st' := [vI (nI o), vI (nI r)]) (σ' := sa σ f) fl5_ok [(83, .iload_n 1), (84, .iload_n 2)] (by decide +kernel) rfl rfl ?_
      refine g_icmp_ge (off := 7) (tgt := 92) (by decide +kernel) (by decide) (fun zc85 => ?_) (fun zc85 => ?_)
      · refine g_blk (pc' := 93) (loc' := [some (vR (8, 0, 0)), some (vI (nI r)), some (vI (nI o)), some (vI ((lm f r nt) * (mo f o 0))), some (vI ((lm f o nt) * (mo f r 0)))]) (st' := [vI (0 : Int32)]) (σ' := sa σ f) fl5_ok [(92, .iconst 0)] (by decide +kernel) rfl rfl ?_
        exact g_zret (by decide +kernel) (Or.inl rfl) (by rw [aheadM, if_pos zc30, if_pos zc57, if_pos zc85]; exact ⟨rfl, rfl⟩)
      · refine g_blk (pc' := 93) (loc' := [some (vR (8, 0, 0)), some (vI (nI r)), some (vI (nI o)), some (vI ((lm f r nt) * (mo f o 0))), some (vI ((lm f o nt) * (mo f r 0)))]) (st' := [vI (1 : Int32)]) (σ' := sa σ f) fl5_ok [(88, .iconst 1), (89, .goto 4)] (by decide +kernel) rfl rfl ?_
        exact g_zret (by decide +kernel) (Or.inr rfl) (by rw [aheadM, if_pos zc30, if_pos zc57, if_neg zc85]; exact ⟨rfl, rfl⟩)
    · refine g_blk (pc' := 63) (loc' := [some (vR (8, 0, 0)), some (vI (nI r)), some (vI (nI o)), some (vI ((lm f r nt) * (mo f o 0))), some (vI ((lm f o nt) * (mo f r 0)))]) (st' := [vI (2 : Int32), vI (nI r), vR (8, 0, 0)]) (σ' := sa σ f) fl5_ok [(60, .aload_n 0), (61, .iload_n 1), (62, .iconst 2)] (by decide +kernel) rfl rfl ?_
      refine g_callVp (8, 0, 0) [vI (nI r), vI (2 : Int32)] [] vl_RX5_44 mi_X5_of (c_X5_of l (r := r) (c := 2) rfl rfl (by omega) (by omega)) rfl rfl rfl rfl ⟨Nat.le_of_ble_eq_true rfl, Nat.le_of_ble_eq_true rfl⟩ rfl (Nat.le_of_ble_eq_true rfl) (by decide +kernel) ?_
      refine g_blk (pc' := 69) (loc' := [some (vR (8, 0, 0)), some (vI (nI r)), some (vI (nI o)), some (vI ((lm f r nt) * (mo f o 0))), some (vI ((lm f o nt) * (mo f r 0)))]) (st' := [vI (2 : Int32), vI (nI o), vR (8, 0, 0), vI (mo f r 2)]) (σ' := sa σ f) fl5_ok [(66, .aload_n 0), (67, .iload_n 2), (68, .iconst 2)] (by decide +kernel) rfl rfl ?_
      refine g_callVp (8, 0, 0) [vI (nI o), vI (2 : Int32)] [vI (mo f r 2)] vl_RX5_44 mi_X5_of (c_X5_of l (r := o) (c := 2) rfl rfl (by omega) (by omega)) rfl rfl rfl rfl ⟨Nat.le_of_ble_eq_true rfl, Nat.le_of_ble_eq_true rfl⟩ rfl (Nat.le_of_ble_eq_true rfl) (by decide +kernel) ?_
      refine g_icmp_le (off := 7) (tgt := 79) (by decide +kernel) (by decide) (fun zc72 => ?_) (fun zc72 => ?_)
      · refine g_blk (pc' := 93) (loc' := [some (vR (8, 0, 0)), some (vI (nI r)), some (vI (nI o)), some (vI ((lm f r nt) * (mo f o 0))), some (vI ((lm f o nt) * (mo f r 0)))]) (st' := [vI (0 : Int32)]) (σ' := sa σ f) fl5_ok [(79, .iconst 0), (80, .goto 13)] (by decide +kernel) rfl rfl ?_
        exact g_zret (by decide +kernel) (Or.inl rfl) (by rw [aheadM, if_pos zc30, if_neg zc57, if_pos zc72]; exact ⟨rfl, rfl⟩)
      · refine g_blk (pc' := 93) (loc' := [some (vR (8, 0, 0)), some (vI (nI r)), some (vI (nI o)), some (vI ((lm f r nt) * (mo f o 0))), some (vI ((lm f o nt) * (mo f r 0)))]) (st' := [vI (1 : Int32)]) (σ' := sa σ f) fl5_ok [(75, .iconst 1), (76, .goto 17)] (by decide +kernel) rfl rfl ?_
        exact g_zret (by decide +kernel) (Or.inr rfl) (by rw [aheadM, if_pos zc30, if_neg zc57, if_neg zc72]; exact ⟨rfl, rfl⟩)
  · refine g_blk (pc' := 36) (loc' := [some (vR (8, 0, 0)), some (vI (nI r)), some (vI (nI o)), some (vI ((lm f r nt) * (mo f o 0))), some (vI ((lm f o nt) * (mo f r 0)))]) (st' := [vI ((lm f o nt) * (mo f r 0)), vI ((lm f r nt) * (mo f o 0))]) (σ' := sa σ f) fl5_ok [(33, .iload_n 3), (34, .iload 4)] (by decide +kernel) rfl rfl ?_
    refine g_icmp_ge (off := 7) (tgt := 43) (by decide +kernel) (by decide) (fun zc36 => ?_) (fun zc36 => ?_)
    · refine g_blk (pc' := 44) (loc' := [some (vR (8, 0, 0)), some (vI (nI r)), some (vI (nI o)), some (vI ((lm f r nt) * (mo f o 0))), some (vI ((lm f o nt) * (mo f r 0)))]) (st' := [vI (0 : Int32)]) (σ' := sa σ f) fl5_ok [(43, .iconst 0)] (by decide +kernel) rfl rfl ?_
      exact g_zret (by decide +kernel) (Or.inl rfl) (by rw [aheadM, if_neg zc30, if_pos zc36]; exact ⟨rfl, rfl⟩)
    · refine g_blk (pc' := 44) (loc' := [some (vR (8, 0, 0)), some (vI (nI r)), some (vI (nI o)), some (vI ((lm f r nt) * (mo f o 0))), some (vI ((lm f o nt) * (mo f r 0)))]) (st' := [vI (1 : Int32)]) (σ' := sa σ f) fl5_ok [(39, .iconst 1), (40, .goto 4)] (by decide +kernel) rfl rfl ?_
      exact g_zret (by decide +kernel) (Or.inr rfl) (by rw [aheadM, if_neg zc30, if_neg zc36]; exact ⟨rfl, rfl⟩)
theorem best_or (f : Nat → Int32) (b : Int32) (nt : Nat) : ∀ n, bestL f b nt n = -6 ∨ ∃ m, m < n ∧ bestL f b nt n = nI m
  | 0 => Or.inl rfl
  | n + 1 => by
    have ih := best_or f b nt n
    have up : bestL f b nt n = -6 ∨ ∃ m, m < n + 1 ∧ bestL f b nt n = nI m := ih.elim Or.inl (fun ⟨m, h1, h2⟩ => Or.inr ⟨m, by omega, h2⟩)
    rw [bestL]
    split
    · exact up
    · split
      · exact up
      · split
        · exact Or.inr ⟨n, by omega, rfl⟩
        · split
          · exact up
          · exact Or.inr ⟨n, by omega, rfl⟩
theorem best_nn {f : Nat → Int32} {b : Int32} {nt n : Nat} (h : ¬ bestL f b nt n < 0) : ∃ m, m < n ∧ bestL f b nt n = nI m := by
  rcases best_or f b nt n with q | q
  · rw [q] at h; exact absurd (by decide) h
  · exact q
set_option maxHeartbeats 2000000 in
theorem lp_X5_bestFor (l : Launch) {σ : Sg} {f : Nat → Int32} {b : Int32} {nr nt : Nat} (hnr : f 1 = nI nr) (h8 : nr ≤ 8) (hnt : f 3 = nI nt) (h12 : nt ≤ 12) : ∀ (k r : Nat), r + k = nr → G l (Rm 3) RX5 cX5_bestFor 4 (some .int) (pureP (bestL f b nt nr) (sa σ f)) 5 [some (vR (8, 0, 0)), some (vI b), some (vI (bestL f b nt r)), some (vI (nI r))] [] (sa σ f) := by
  intro k
  induction k with
  | zero =>
    intro r hk
    refine g_blk (pc' := 12) (loc' := [some (vR (8, 0, 0)), some (vI b), some (vI (bestL f b nt r)), some (vI (nI r))]) (st' := [vI (f 1), vI (nI r)]) (σ' := sa σ f) fl5_ok [(5, .iload_n 3), (6, .aload_n 0), (7, .getfield 7), (10, .iconst 1), (11, .iaload)] (by decide +kernel) rfl rfl ?_
    refine g_icmp_ge (off := 41) (tgt := 53) (by decide +kernel) (by decide) (fun zc12 => ?_) (fun zc12 => ?_)
    · rw [hnr, nI_leI (by omega) (by omega)] at zc12
      refine g_blk (pc' := 54) (loc' := [some (vR (8, 0, 0)), some (vI b), some (vI (bestL f b nt r)), some (vI (nI r))]) (st' := [vI (bestL f b nt r)]) (σ' := sa σ f) fl5_ok [(53, .iload_n 2)] (by decide +kernel) rfl rfl ?_
      obtain rfl : r = nr := by omega
      exact g_iret (by decide +kernel) ⟨rfl, rfl⟩
    · rw [hnr, nI_leI (by omega) (by omega)] at zc12
      exact absurd (by omega) zc12
  | succ k ih =>
    intro r hk
    refine g_blk (pc' := 12) (loc' := [some (vR (8, 0, 0)), some (vI b), some (vI (bestL f b nt r)), some (vI (nI r))]) (st' := [vI (f 1), vI (nI r)]) (σ' := sa σ f) fl5_ok [(5, .iload_n 3), (6, .aload_n 0), (7, .getfield 7), (10, .iconst 1), (11, .iaload)] (by decide +kernel) rfl rfl ?_
    refine g_icmp_ge (off := 41) (tgt := 53) (by decide +kernel) (by decide) (fun zc12 => ?_) (fun zc12 => ?_)
    · rw [hnr, nI_leI (by omega) (by omega)] at zc12
      exact absurd zc12 (by omega)
    · rw [hnr, nI_leI (by omega) (by omega)] at zc12
      refine g_blk (pc' := 17) (loc' := [some (vR (8, 0, 0)), some (vI b), some (vI (bestL f b nt r)), some (vI (nI r))]) (st' := [vI (nI r), vR (8, 0, 0)]) (σ' := sa σ f) fl5_ok [(15, .aload_n 0), (16, .iload_n 3)] (by decide +kernel) rfl rfl ?_
      refine g_callVp (8, 0, 0) [vI (nI r)] [] vl_RX5_48 mi_X5_isAway (c_X5_isAway l (r := r) rfl (by omega)) rfl rfl rfl rfl ⟨Nat.le_of_ble_eq_true rfl, Nat.le_of_ble_eq_true rfl⟩ rfl (Nat.le_of_ble_eq_true rfl) (by decide +kernel) ?_
      refine g_if_ne (off := 27) (tgt := 47) (by decide +kernel) (by decide) (fun zc20 => ?_) (fun zc20 => ?_)
      · refine g_blk (pc' := 5) (loc' := [some (vR (8, 0, 0)), some (vI b), some (vI (bestL f b nt r)), some (vI ((nI r) + (1 : Int32)))]) (st' := []) (σ' := sa σ f) fl5_ok [(47, .iinc 3 1), (50, .goto (-45))] (by decide +kernel) rfl rfl ?_
        have hstep : bestL f b nt (r + 1) = bestL f b nt r := by rw [bestL, if_pos zc20]
        have hih := ih (r + 1) (by omega)
        rw [hstep] at hih
        rw [nI_1]
        exact hih
      · refine g_blk (pc' := 25) (loc' := [some (vR (8, 0, 0)), some (vI b), some (vI (bestL f b nt r)), some (vI (nI r))]) (st' := [vI b, vI (nI r)]) (σ' := sa σ f) fl5_ok [(23, .iload_n 3), (24, .iload_n 1)] (by decide +kernel) rfl rfl ?_
        refine g_icmp_eq (off := 22) (tgt := 47) (by decide +kernel) (by decide) (fun zc25 => ?_) (fun zc25 => ?_)
        · refine g_blk (pc' := 5) (loc' := [some (vR (8, 0, 0)), some (vI b), some (vI (bestL f b nt r)), some (vI ((nI r) + (1 : Int32)))]) (st' := []) (σ' := sa σ f) fl5_ok [(47, .iinc 3 1), (50, .goto (-45))] (by decide +kernel) rfl rfl ?_
          have hstep : bestL f b nt (r + 1) = bestL f b nt r := by rw [bestL, if_neg (not_not_intro zc20), if_pos zc25]
          have hih := ih (r + 1) (by omega)
          rw [hstep] at hih
          rw [nI_1]
          exact hih
        · refine g_blk (pc' := 29) (loc' := [some (vR (8, 0, 0)), some (vI b), some (vI (bestL f b nt r)), some (vI (nI r))]) (st' := [vI (bestL f b nt r)]) (σ' := sa σ f) fl5_ok [(28, .iload_n 2)] (by decide +kernel) rfl rfl ?_
          refine g_if_lt (off := 12) (tgt := 41) (by decide +kernel) (by decide) (fun zc29 => ?_) (fun zc29 => ?_)
          · refine g_blk (pc' := 5) (loc' := [some (vR (8, 0, 0)), some (vI b), some (vI (nI r)), some (vI ((nI r) + (1 : Int32)))]) (st' := []) (σ' := sa σ f) fl5_ok [(41, .iload_n 3), (42, .goto 4), (46, .istore_n 2), (47, .iinc 3 1), (50, .goto (-45))] (by decide +kernel) rfl rfl ?_
            have hstep : bestL f b nt (r + 1) = nI r := by rw [bestL, if_neg (not_not_intro zc20), if_neg zc25, if_pos zc29]
            have hih := ih (r + 1) (by omega)
            rw [hstep] at hih
            rw [nI_1]
            exact hih
          · refine g_blk (pc' := 35) (loc' := [some (vR (8, 0, 0)), some (vI b), some (vI (bestL f b nt r)), some (vI (nI r))]) (st' := [vI (bestL f b nt r), vI (nI r), vR (8, 0, 0)]) (σ' := sa σ f) fl5_ok [(32, .aload_n 0), (33, .iload_n 3), (34, .iload_n 2)] (by decide +kernel) rfl rfl ?_
            obtain ⟨m, hm, hme⟩ := best_nn zc29
            have hcl : (bestL f b nt r).toNatClampNeg = m := by rw [hme]; exact nI_clamp (by omega)
            refine g_callVp (8, 0, 0) [vI (nI r), vI (bestL f b nt r)] [] vl_RX5_74 mi_X5_isAhead (c_X5_isAhead l (r := r) (o := m) rfl hme (by omega) (by omega) hnt (by omega)) rfl rfl rfl rfl ⟨Nat.le_of_ble_eq_true rfl, Nat.le_of_ble_eq_true rfl⟩ rfl (Nat.le_of_ble_eq_true rfl) (by decide +kernel) ?_
            refine g_if_eq (off := 7) (tgt := 45) (by decide +kernel) (by decide) (fun zc38 => ?_) (fun zc38 => ?_)
            · refine g_blk (pc' := 5) (loc' := [some (vR (8, 0, 0)), some (vI b), some (vI (bestL f b nt r)), some (vI ((nI r) + (1 : Int32)))]) (st' := []) (σ' := sa σ f) fl5_ok [(45, .iload_n 2), (46, .istore_n 2), (47, .iinc 3 1), (50, .goto (-45))] (by decide +kernel) rfl rfl ?_
              rw [← hcl] at zc38
              have hstep : bestL f b nt (r + 1) = bestL f b nt r := by rw [bestL, if_neg (not_not_intro zc20), if_neg zc25, if_neg zc29, if_pos zc38]
              have hih := ih (r + 1) (by omega)
              rw [hstep] at hih
              rw [nI_1]
              exact hih
            · refine g_blk (pc' := 5) (loc' := [some (vR (8, 0, 0)), some (vI b), some (vI (nI r)), some (vI ((nI r) + (1 : Int32)))]) (st' := []) (σ' := sa σ f) fl5_ok [(41, .iload_n 3), (42, .goto 4), (46, .istore_n 2), (47, .iinc 3 1), (50, .goto (-45))] (by decide +kernel) rfl rfl ?_
              rw [← hcl] at zc38
              have hstep : bestL f b nt (r + 1) = nI r := by rw [bestL, if_neg (not_not_intro zc20), if_neg zc25, if_neg zc29, if_neg zc38]
              have hih := ih (r + 1) (by omega)
              rw [hstep] at hih
              rw [nI_1]
              exact hih
set_option maxHeartbeats 2000000 in
theorem c_X5_bestFor (l : Launch) {σ : Sg} {f : Nat → Int32} {nr nt : Nat} (b : Int32) (hnr : f 1 = nI nr) (h8 : nr ≤ 8) (hnt : f 3 = nI nt) (h12 : nt ≤ 12) : Con l 3 yX5_bestFor cX5_bestFor 4 (some .int) [vR (8, 0, 0), vI b] (sa σ f) (pureP (bestL f b nt nr) (sa σ f)) := by
  refine con_of pn_X5_bestFor (Nat.le_of_ble_eq_true rfl) (fun hPK hok => ?_)
  show G l (Rm 3) RX5 cX5_bestFor 4 (some .int) _ 0 [some (vR (8, 0, 0)), some (vI b), none, none] [] (sa σ f)
  refine g_blk (pc' := 5) (loc' := [some (vR (8, 0, 0)), some (vI b), some (vI (-6 : Int32)), some (vI (0 : Int32))]) (st' := []) (σ' := sa σ f) fl5_ok [(0, .bipush (-6)), (2, .istore_n 2), (3, .iconst 0), (4, .istore_n 3)] (by decide +kernel) rfl rfl ?_
  exact lp_X5_bestFor l hnr h8 hnt h12 nr 0 (by omega)
set_option maxHeartbeats 2000000 in
theorem lp_X5_partnerOf (l : Launch) {σ : Sg} {f : Nat → Int32} {t : Nat} (ht : t < 12) : ∀ (k n : Nat), n + k = t → G l (Rm 1) RX5 cX5_partnerOf 5 (some .int) (pureP (partL f t t) (sa σ f)) 5 [some (vR (8, 0, 0)), some (vI (nI t)), some (vI (partL f t n)), some (vI (nI n)), none] [] (sa σ f) := by
  intro k
  induction k with
  | zero =>
    intro n hk
    refine g_blk (pc' := 7) (loc' := [some (vR (8, 0, 0)), some (vI (nI t)), some (vI (partL f t n)), some (vI (nI n)), none]) (st' := [vI (nI t), vI (nI n)]) (σ' := sa σ f) fl5_ok [(5, .iload_n 3), (6, .iload_n 1)] (by decide +kernel) rfl rfl ?_
    refine g_icmp_ge (off := 67) (tgt := 74) (by decide +kernel) (by decide) (fun zc7 => ?_) (fun zc7 => ?_)
    · rw [nI_leI (by omega) (by omega)] at zc7
      refine g_blk (pc' := 75) (loc' := [some (vR (8, 0, 0)), some (vI (nI t)), some (vI (partL f t n)), some (vI (nI n)), none]) (st' := [vI (partL f t n)]) (σ' := sa σ f) fl5_ok [(74, .iload_n 2)] (by decide +kernel) rfl rfl ?_
      obtain rfl : n = t := by omega
      exact g_iret (by decide +kernel) ⟨rfl, rfl⟩
    · rw [nI_leI (by omega) (by omega)] at zc7
      exact absurd (by omega) zc7
  | succ k ih =>
    intro n hk
    refine g_blk (pc' := 7) (loc' := [some (vR (8, 0, 0)), some (vI (nI t)), some (vI (partL f t n)), some (vI (nI n)), none]) (st' := [vI (nI t), vI (nI n)]) (σ' := sa σ f) fl5_ok [(5, .iload_n 3), (6, .iload_n 1)] (by decide +kernel) rfl rfl ?_
    refine g_icmp_ge (off := 67) (tgt := 74) (by decide +kernel) (by decide) (fun zc7 => ?_) (fun zc7 => ?_)
    · rw [nI_leI (by omega) (by omega)] at zc7
      exact absurd zc7 (by omega)
    · rw [nI_leI (by omega) (by omega)] at zc7
      refine g_blk (pc' := 13) (loc' := [some (vR (8, 0, 0)), some (vI (nI t)), some (vI (partL f t n)), some (vI (nI n)), none]) (st' := [vI (4 : Int32), vI (nI n), vR (8, 0, 0)]) (σ' := sa σ f) fl5_ok [(10, .aload_n 0), (11, .iload_n 3), (12, .iconst 4)] (by decide +kernel) rfl rfl ?_
      refine g_callVp (8, 0, 0) [vI (nI n), vI (4 : Int32)] [] vl_RX5_65 mi_X5_ofTask (c_X5_ofTask l (r := n) (c := 4) rfl rfl (by omega) (by omega)) rfl rfl rfl rfl ⟨Nat.le_of_ble_eq_true rfl, Nat.le_of_ble_eq_true rfl⟩ rfl (Nat.le_of_ble_eq_true rfl) (by decide +kernel) ?_
      refine g_blk (pc' := 17) (loc' := [some (vR (8, 0, 0)), some (vI (nI t)), some (vI (partL f t n)), some (vI (nI n)), none]) (st' := [vI (1 : Int32), vI (mk f n 4)]) (σ' := sa σ f) fl5_ok [(16, .iconst 1)] (by decide +kernel) rfl rfl ?_
      refine g_icmp_ne (off := 22) (tgt := 39) (by decide +kernel) (by decide) (fun zc17 => ?_) (fun zc17 => ?_)
      · refine g_blk (pc' := 44) (loc' := [some (vR (8, 0, 0)), some (vI (nI t)), some (vI (partL f t n)), some (vI (nI n)), some (vI (0 : Int32))]) (st' := [vI (0 : Int32)]) (σ' := sa σ f) fl5_ok [(39, .iconst 0), (40, .istore 4), (42, .iload 4)] (by decide +kernel) rfl rfl ?_
        refine g_if_eq (off := 22) (tgt := 66) (by decide +kernel) (by decide) (fun zc44 => ?_) (fun zc44 => ?_)
        · refine g_blk (pc' := 5) (loc' := [some (vR (8, 0, 0)), some (vI (nI t)), some (vI (partL f t n)), some (vI ((nI n) + (1 : Int32))), some (vI (0 : Int32))]) (st' := []) (σ' := sa σ f) fl5_ok [(66, .iload_n 2), (67, .istore_n 2), (68, .iinc 3 1), (71, .goto (-66))] (by decide +kernel) rfl rfl ?_
          have hstep : partL f t (n + 1) = partL f t n := by rw [partL, if_pos zc17]
          have hih := ih (n + 1) (by omega)
          rw [hstep] at hih
          rw [nI_1]
          exact g_sub (loc' := [some (vR (8, 0, 0)), some (vI (nI t)), some (vI (partL f t n)), some (vI (nI (n + 1))), none]) ⟨Or.inr rfl, Or.inr rfl, Or.inr rfl, Or.inr rfl, Or.inl rfl, trivial⟩ hih
        · exact absurd zc44 (by decide)
      · refine g_blk (pc' := 23) (loc' := [some (vR (8, 0, 0)), some (vI (nI t)), some (vI (partL f t n)), some (vI (nI n)), none]) (st' := [vI (0 : Int32), vI (nI n), vR (8, 0, 0)]) (σ' := sa σ f) fl5_ok [(20, .aload_n 0), (21, .iload_n 3), (22, .iconst 0)] (by decide +kernel) rfl rfl ?_
        refine g_callVp (8, 0, 0) [vI (nI n), vI (0 : Int32)] [] vl_RX5_65 mi_X5_ofTask (c_X5_ofTask l (r := n) (c := 0) rfl rfl (by omega) (by omega)) rfl rfl rfl rfl ⟨Nat.le_of_ble_eq_true rfl, Nat.le_of_ble_eq_true rfl⟩ rfl (Nat.le_of_ble_eq_true rfl) (by decide +kernel) ?_
        refine g_blk (pc' := 29) (loc' := [some (vR (8, 0, 0)), some (vI (nI t)), some (vI (partL f t n)), some (vI (nI n)), none]) (st' := [vI (0 : Int32), vI (nI t), vR (8, 0, 0), vI (mk f n 0)]) (σ' := sa σ f) fl5_ok [(26, .aload_n 0), (27, .iload_n 1), (28, .iconst 0)] (by decide +kernel) rfl rfl ?_
        refine g_callVp (8, 0, 0) [vI (nI t), vI (0 : Int32)] [vI (mk f n 0)] vl_RX5_65 mi_X5_ofTask (c_X5_ofTask l (r := t) (c := 0) rfl rfl (by omega) (by omega)) rfl rfl rfl rfl ⟨Nat.le_of_ble_eq_true rfl, Nat.le_of_ble_eq_true rfl⟩ rfl (Nat.le_of_ble_eq_true rfl) (by decide +kernel) ?_
        refine g_icmp_ne (off := 7) (tgt := 39) (by decide +kernel) (by decide) (fun zc32 => ?_) (fun zc32 => ?_)
        · refine g_blk (pc' := 44) (loc' := [some (vR (8, 0, 0)), some (vI (nI t)), some (vI (partL f t n)), some (vI (nI n)), some (vI (0 : Int32))]) (st' := [vI (0 : Int32)]) (σ' := sa σ f) fl5_ok [(39, .iconst 0), (40, .istore 4), (42, .iload 4)] (by decide +kernel) rfl rfl ?_
          refine g_if_eq (off := 22) (tgt := 66) (by decide +kernel) (by decide) (fun zc44 => ?_) (fun zc44 => ?_)
          · refine g_blk (pc' := 5) (loc' := [some (vR (8, 0, 0)), some (vI (nI t)), some (vI (partL f t n)), some (vI ((nI n) + (1 : Int32))), some (vI (0 : Int32))]) (st' := []) (σ' := sa σ f) fl5_ok [(66, .iload_n 2), (67, .istore_n 2), (68, .iinc 3 1), (71, .goto (-66))] (by decide +kernel) rfl rfl ?_
            have hstep : partL f t (n + 1) = partL f t n := by rw [partL, if_neg (not_not_intro zc17), if_pos zc32]
            have hih := ih (n + 1) (by omega)
            rw [hstep] at hih
            rw [nI_1]
            exact g_sub (loc' := [some (vR (8, 0, 0)), some (vI (nI t)), some (vI (partL f t n)), some (vI (nI (n + 1))), none]) ⟨Or.inr rfl, Or.inr rfl, Or.inr rfl, Or.inr rfl, Or.inl rfl, trivial⟩ hih
          · exact absurd zc44 (by decide)
        · refine g_blk (pc' := 44) (loc' := [some (vR (8, 0, 0)), some (vI (nI t)), some (vI (partL f t n)), some (vI (nI n)), some (vI (1 : Int32))]) (st' := [vI (1 : Int32)]) (σ' := sa σ f) fl5_ok [(35, .iconst 1), (36, .goto 4), (40, .istore 4), (42, .iload 4)] (by decide +kernel) rfl rfl ?_
          refine g_if_eq (off := 22) (tgt := 66) (by decide +kernel) (by decide) (fun zc44 => ?_) (fun zc44 => ?_)
          · exact absurd zc44 (by decide)
          · refine g_blk (pc' := 50) (loc' := [some (vR (8, 0, 0)), some (vI (nI t)), some (vI (partL f t n)), some (vI (nI n)), some (vI (1 : Int32))]) (st' := [vI (4 : Int32), vI (nI t), vR (8, 0, 0)]) (σ' := sa σ f) fl5_ok [(47, .aload_n 0), (48, .iload_n 1), (49, .iconst 4)] (by decide +kernel) rfl rfl ?_
            refine g_callVp (8, 0, 0) [vI (nI t), vI (4 : Int32)] [] vl_RX5_65 mi_X5_ofTask (c_X5_ofTask l (r := t) (c := 4) rfl rfl (by omega) (by omega)) rfl rfl rfl rfl ⟨Nat.le_of_ble_eq_true rfl, Nat.le_of_ble_eq_true rfl⟩ rfl (Nat.le_of_ble_eq_true rfl) (by decide +kernel) ?_
            refine g_blk (pc' := 54) (loc' := [some (vR (8, 0, 0)), some (vI (nI t)), some (vI (partL f t n)), some (vI (nI n)), some (vI (1 : Int32))]) (st' := [vI (1 : Int32), vI (mk f t 4)]) (σ' := sa σ f) fl5_ok [(53, .iconst 1)] (by decide +kernel) rfl rfl ?_
            refine g_icmp_ne (off := 12) (tgt := 66) (by decide +kernel) (by decide) (fun zc54 => ?_) (fun zc54 => ?_)
            · refine g_blk (pc' := 5) (loc' := [some (vR (8, 0, 0)), some (vI (nI t)), some (vI (partL f t n)), some (vI ((nI n) + (1 : Int32))), some (vI (1 : Int32))]) (st' := []) (σ' := sa σ f) fl5_ok [(66, .iload_n 2), (67, .istore_n 2), (68, .iinc 3 1), (71, .goto (-66))] (by decide +kernel) rfl rfl ?_
              have hstep : partL f t (n + 1) = partL f t n := by rw [partL, if_neg (not_not_intro zc17), if_neg (not_not_intro zc32), if_pos zc54]
              have hih := ih (n + 1) (by omega)
              rw [hstep] at hih
              rw [nI_1]
              exact g_sub (loc' := [some (vR (8, 0, 0)), some (vI (nI t)), some (vI (partL f t n)), some (vI (nI (n + 1))), none]) ⟨Or.inr rfl, Or.inr rfl, Or.inr rfl, Or.inr rfl, Or.inl rfl, trivial⟩ hih
            · refine g_blk (pc' := 60) (loc' := [some (vR (8, 0, 0)), some (vI (nI t)), some (vI (partL f t n)), some (vI (nI n)), some (vI (1 : Int32))]) (st' := [vI (1 : Int32), vI (nI n), vR (8, 0, 0)]) (σ' := sa σ f) fl5_ok [(57, .aload_n 0), (58, .iload_n 3), (59, .iconst 1)] (by decide +kernel) rfl rfl ?_
              refine g_callVp (8, 0, 0) [vI (nI n), vI (1 : Int32)] [] vl_RX5_65 mi_X5_ofTask (c_X5_ofTask l (r := n) (c := 1) rfl rfl (by omega) (by omega)) rfl rfl rfl rfl ⟨Nat.le_of_ble_eq_true rfl, Nat.le_of_ble_eq_true rfl⟩ rfl (Nat.le_of_ble_eq_true rfl) (by decide +kernel) ?_
              refine g_blk (pc' := 5) (loc' := [some (vR (8, 0, 0)), some (vI (nI t)), some (vI (mk f n 1)), some (vI ((nI n) + (1 : Int32))), some (vI (1 : Int32))]) (st' := []) (σ' := sa σ f) fl5_ok [(63, .goto 4), (67, .istore_n 2), (68, .iinc 3 1), (71, .goto (-66))] (by decide +kernel) rfl rfl ?_
              have hstep : partL f t (n + 1) = mk f n 1 := by rw [partL, if_neg (not_not_intro zc17), if_neg (not_not_intro zc32), if_neg (not_not_intro zc54)]
              have hih := ih (n + 1) (by omega)
              rw [hstep] at hih
              rw [nI_1]
              exact g_sub (loc' := [some (vR (8, 0, 0)), some (vI (nI t)), some (vI (mk f n 1)), some (vI (nI (n + 1))), none]) ⟨Or.inr rfl, Or.inr rfl, Or.inr rfl, Or.inr rfl, Or.inl rfl, trivial⟩ hih
set_option maxHeartbeats 2000000 in
theorem c_X5_partnerOf (l : Launch) {σ : Sg} {f : Nat → Int32} {x : Int32} {t : Nat} (hx : x = nI t) (ht : t < 12) : Con l 1 yX5_partnerOf cX5_partnerOf 5 (some .int) [vR (8, 0, 0), vI x] (sa σ f) (pureP (partL f t t) (sa σ f)) := by
  subst hx
  refine con_of pn_X5_partnerOf (Nat.le_of_ble_eq_true rfl) (fun hPK hok => ?_)
  show G l (Rm 1) RX5 cX5_partnerOf 5 (some .int) _ 0 [some (vR (8, 0, 0)), some (vI (nI t)), none, none, none] [] (sa σ f)
  refine g_blk (pc' := 5) (loc' := [some (vR (8, 0, 0)), some (vI (nI t)), some (vI (-6 : Int32)), some (vI (0 : Int32)), none]) (st' := []) (σ' := sa σ f) fl5_ok [(0, .bipush (-6)), (2, .istore_n 2), (3, .iconst 0), (4, .istore_n 3)] (by decide +kernel) rfl rfl ?_
  exact lp_X5_partnerOf l ht t 0 (by omega)
theorem last_bit (f : Nat → Int32) (t : Nat) : ∀ n, lastL f t n = 0 ∨ lastL f t n = 1
  | 0 => Or.inr rfl
  | n + 1 => by
    rw [lastL]
    split
    · exact Or.inl rfl
    · split
      · exact Or.inr rfl
      · split
        · exact Or.inr rfl
        · split
          · exact Or.inl rfl
          · exact Or.inr rfl
set_option maxHeartbeats 2000000 in
theorem lp_X5_isLastOf (l : Launch) {σ : Sg} {f : Nat → Int32} {t nt : Nat} (ht : t < 12) (hnt : f 3 = nI nt) (h12 : nt ≤ 12) : ∀ (k n : Nat), n + k = nt → G l (Rm 1) RX5 cX5_isLastOf 4 (some .boolean) (pureP (lastL f t nt) (sa σ f)) 4 [some (vR (8, 0, 0)), some (vI (nI t)), some (vI (lastL f t n)), some (vI (nI n))] [] (sa σ f) := by
  intro k
  induction k with
  | zero =>
    intro n hk
    refine g_blk (pc' := 11) (loc' := [some (vR (8, 0, 0)), some (vI (nI t)), some (vI (lastL f t n)), some (vI (nI n))]) (st' := [vI (f 3), vI (nI n)]) (σ' := sa σ f) fl5_ok [(4, .iload_n 3), (5, .aload_n 0), (6, .getfield 7), (9, .iconst 3), (10, .iaload)] (by decide +kernel) rfl rfl ?_
    refine g_icmp_ge (off := 49) (tgt := 60) (by decide +kernel) (by decide) (fun zc11 => ?_) (fun zc11 => ?_)
    · rw [hnt, nI_leI (by omega) (by omega)] at zc11
      refine g_blk (pc' := 61) (loc' := [some (vR (8, 0, 0)), some (vI (nI t)), some (vI (lastL f t n)), some (vI (nI n))]) (st' := [vI (lastL f t n)]) (σ' := sa σ f) fl5_ok [(60, .iload_n 2)] (by decide +kernel) rfl rfl ?_
      obtain rfl : n = nt := by omega
      exact g_zret (by decide +kernel) (last_bit f t n) ⟨rfl, rfl⟩
    · rw [hnt, nI_leI (by omega) (by omega)] at zc11
      exact absurd (by omega) zc11
  | succ k ih =>
    intro n hk
    refine g_blk (pc' := 11) (loc' := [some (vR (8, 0, 0)), some (vI (nI t)), some (vI (lastL f t n)), some (vI (nI n))]) (st' := [vI (f 3), vI (nI n)]) (σ' := sa σ f) fl5_ok [(4, .iload_n 3), (5, .aload_n 0), (6, .getfield 7), (9, .iconst 3), (10, .iaload)] (by decide +kernel) rfl rfl ?_
    refine g_icmp_ge (off := 49) (tgt := 60) (by decide +kernel) (by decide) (fun zc11 => ?_) (fun zc11 => ?_)
    · rw [hnt, nI_leI (by omega) (by omega)] at zc11
      exact absurd zc11 (by omega)
    · rw [hnt, nI_leI (by omega) (by omega)] at zc11
      refine g_blk (pc' := 15) (loc' := [some (vR (8, 0, 0)), some (vI (nI t)), some (vI (lastL f t n)), some (vI (nI n))]) (st' := [vI (lastL f t n)]) (σ' := sa σ f) fl5_ok [(14, .iload_n 2)] (by decide +kernel) rfl rfl ?_
      refine g_if_eq (off := 37) (tgt := 52) (by decide +kernel) (by decide) (fun zc15 => ?_) (fun zc15 => ?_)
      · refine g_blk (pc' := 4) (loc' := [some (vR (8, 0, 0)), some (vI (nI t)), some (vI (0 : Int32)), some (vI ((nI n) + (1 : Int32)))]) (st' := []) (σ' := sa σ f) fl5_ok [(52, .iconst 0), (53, .istore_n 2), (54, .iinc 3 1), (57, .goto (-53))] (by decide +kernel) rfl rfl ?_
        have hstep : lastL f t (n + 1) = (0 : Int32) := by rw [lastL, if_pos zc15]
        have hih := ih (n + 1) (by omega)
        rw [hstep] at hih
        rw [nI_1]
        exact hih
      · refine g_blk (pc' := 20) (loc' := [some (vR (8, 0, 0)), some (vI (nI t)), some (vI (lastL f t n)), some (vI (nI n))]) (st' := [vI (nI t), vI (nI n)]) (σ' := sa σ f) fl5_ok [(18, .iload_n 3), (19, .iload_n 1)] (by decide +kernel) rfl rfl ?_
        refine g_icmp_eq (off := 28) (tgt := 48) (by decide +kernel) (by decide) (fun zc20 => ?_) (fun zc20 => ?_)
        · refine g_blk (pc' := 4) (loc' := [some (vR (8, 0, 0)), some (vI (nI t)), some (vI (1 : Int32)), some (vI ((nI n) + (1 : Int32)))]) (st' := []) (σ' := sa σ f) fl5_ok [(48, .iconst 1), (49, .goto 4), (53, .istore_n 2), (54, .iinc 3 1), (57, .goto (-53))] (by decide +kernel) rfl rfl ?_
          have hstep : lastL f t (n + 1) = (1 : Int32) := by rw [lastL, if_neg zc15, if_pos zc20]
          have hih := ih (n + 1) (by omega)
          rw [hstep] at hih
          rw [nI_1]
          exact hih
        · refine g_blk (pc' := 26) (loc' := [some (vR (8, 0, 0)), some (vI (nI t)), some (vI (lastL f t n)), some (vI (nI n))]) (st' := [vI (0 : Int32), vI (nI n), vR (8, 0, 0)]) (σ' := sa σ f) fl5_ok [(23, .aload_n 0), (24, .iload_n 3), (25, .iconst 0)] (by decide +kernel) rfl rfl ?_
          refine g_callVp (8, 0, 0) [vI (nI n), vI (0 : Int32)] [] vl_RX5_65 mi_X5_ofTask (c_X5_ofTask l (r := n) (c := 0) rfl rfl (by omega) (by omega)) rfl rfl rfl rfl ⟨Nat.le_of_ble_eq_true rfl, Nat.le_of_ble_eq_true rfl⟩ rfl (Nat.le_of_ble_eq_true rfl) (by decide +kernel) ?_
          refine g_blk (pc' := 32) (loc' := [some (vR (8, 0, 0)), some (vI (nI t)), some (vI (lastL f t n)), some (vI (nI n))]) (st' := [vI (0 : Int32), vI (nI t), vR (8, 0, 0), vI (mk f n 0)]) (σ' := sa σ f) fl5_ok [(29, .aload_n 0), (30, .iload_n 1), (31, .iconst 0)] (by decide +kernel) rfl rfl ?_
          refine g_callVp (8, 0, 0) [vI (nI t), vI (0 : Int32)] [vI (mk f n 0)] vl_RX5_65 mi_X5_ofTask (c_X5_ofTask l (r := t) (c := 0) rfl rfl (by omega) (by omega)) rfl rfl rfl rfl ⟨Nat.le_of_ble_eq_true rfl, Nat.le_of_ble_eq_true rfl⟩ rfl (Nat.le_of_ble_eq_true rfl) (by decide +kernel) ?_
          refine g_icmp_ne (off := 13) (tgt := 48) (by decide +kernel) (by decide) (fun zc35 => ?_) (fun zc35 => ?_)
          · refine g_blk (pc' := 4) (loc' := [some (vR (8, 0, 0)), some (vI (nI t)), some (vI (1 : Int32)), some (vI ((nI n) + (1 : Int32)))]) (st' := []) (σ' := sa σ f) fl5_ok [(48, .iconst 1), (49, .goto 4), (53, .istore_n 2), (54, .iinc 3 1), (57, .goto (-53))] (by decide +kernel) rfl rfl ?_
            have hstep : lastL f t (n + 1) = (1 : Int32) := by rw [lastL, if_neg zc15, if_neg zc20, if_pos zc35]
            have hih := ih (n + 1) (by omega)
            rw [hstep] at hih
            rw [nI_1]
            exact hih
          · refine g_blk (pc' := 41) (loc' := [some (vR (8, 0, 0)), some (vI (nI t)), some (vI (lastL f t n)), some (vI (nI n))]) (st' := [vI (3 : Int32), vI (nI n), vR (8, 0, 0)]) (σ' := sa σ f) fl5_ok [(38, .aload_n 0), (39, .iload_n 3), (40, .iconst 3)] (by decide +kernel) rfl rfl ?_
            refine g_callVp (8, 0, 0) [vI (nI n), vI (3 : Int32)] [] vl_RX5_65 mi_X5_ofTask (c_X5_ofTask l (r := n) (c := 3) rfl rfl (by omega) (by omega)) rfl rfl rfl rfl ⟨Nat.le_of_ble_eq_true rfl, Nat.le_of_ble_eq_true rfl⟩ rfl (Nat.le_of_ble_eq_true rfl) (by decide +kernel) ?_
            refine g_blk (pc' := 45) (loc' := [some (vR (8, 0, 0)), some (vI (nI t)), some (vI (lastL f t n)), some (vI (nI n))]) (st' := [vI (1 : Int32), vI (mk f n 3)]) (σ' := sa σ f) fl5_ok [(44, .iconst 1)] (by decide +kernel) rfl rfl ?_
            refine g_icmp_ne (off := 7) (tgt := 52) (by decide +kernel) (by decide) (fun zc45 => ?_) (fun zc45 => ?_)
            · refine g_blk (pc' := 4) (loc' := [some (vR (8, 0, 0)), some (vI (nI t)), some (vI (0 : Int32)), some (vI ((nI n) + (1 : Int32)))]) (st' := []) (σ' := sa σ f) fl5_ok [(52, .iconst 0), (53, .istore_n 2), (54, .iinc 3 1), (57, .goto (-53))] (by decide +kernel) rfl rfl ?_
              have hstep : lastL f t (n + 1) = (0 : Int32) := by rw [lastL, if_neg zc15, if_neg zc20, if_neg (not_not_intro zc35), if_pos zc45]
              have hih := ih (n + 1) (by omega)
              rw [hstep] at hih
              rw [nI_1]
              exact hih
            · refine g_blk (pc' := 4) (loc' := [some (vR (8, 0, 0)), some (vI (nI t)), some (vI (1 : Int32)), some (vI ((nI n) + (1 : Int32)))]) (st' := []) (σ' := sa σ f) fl5_ok [(48, .iconst 1), (49, .goto 4), (53, .istore_n 2), (54, .iinc 3 1), (57, .goto (-53))] (by decide +kernel) rfl rfl ?_
              have hstep : lastL f t (n + 1) = (1 : Int32) := by rw [lastL, if_neg zc15, if_neg zc20, if_neg (not_not_intro zc35), if_neg (not_not_intro zc45)]
              have hih := ih (n + 1) (by omega)
              rw [hstep] at hih
              rw [nI_1]
              exact hih
set_option maxHeartbeats 2000000 in
theorem c_X5_isLastOf (l : Launch) {σ : Sg} {f : Nat → Int32} {x : Int32} {t nt : Nat} (hx : x = nI t) (ht : t < 12) (hnt : f 3 = nI nt) (h12 : nt ≤ 12) : Con l 1 yX5_isLastOf cX5_isLastOf 4 (some .boolean) [vR (8, 0, 0), vI x] (sa σ f) (pureP (lastL f t nt) (sa σ f)) := by
  subst hx
  refine con_of pn_X5_isLastOf (Nat.le_of_ble_eq_true rfl) (fun hPK hok => ?_)
  show G l (Rm 1) RX5 cX5_isLastOf 4 (some .boolean) _ 0 [some (vR (8, 0, 0)), some (vI (nI t)), none, none] [] (sa σ f)
  refine g_blk (pc' := 4) (loc' := [some (vR (8, 0, 0)), some (vI (nI t)), some (vI (1 : Int32)), some (vI (0 : Int32))]) (st' := []) (σ' := sa σ f) fl5_ok [(0, .iconst 1), (1, .istore_n 2), (2, .iconst 0), (3, .istore_n 3)] (by decide +kernel) rfl rfl ?_
  exact lp_X5_isLastOf l ht hnt h12 nt 0 (by omega)
theorem pr_bit (f : Nat → Int32) (a b : Int32) : ∀ n, prL f a b n = 0 ∨ prL f a b n = 1
  | 0 => Or.inl rfl
  | n + 1 => by
    rw [prL]
    split
    · exact Or.inr rfl
    · split
      · exact Or.inl rfl
      · split
        · exact Or.inl rfl
        · exact Or.inr rfl
set_option maxHeartbeats 2000000 in
theorem lp_X5_isProposed (l : Launch) {σ : Sg} {f : Nat → Int32} {a b : Int32} {ns : Nat} (hns : f 7 = nI ns) (h6 : ns ≤ 6) : ∀ (k n : Nat), n + k = ns → G l (Rm 1) RX5 cX5_isProposed 5 (some .boolean) (pureP (prL f a b ns) (sa σ f)) 5 [some (vR (8, 0, 0)), some (vI a), some (vI b), some (vI (prL f a b n)), some (vI (nI n))] [] (sa σ f) := by
  intro k
  induction k with
  | zero =>
    intro n hk
    refine g_blk (pc' := 14) (loc' := [some (vR (8, 0, 0)), some (vI a), some (vI b), some (vI (prL f a b n)), some (vI (nI n))]) (st' := [vI (f 7), vI (nI n)]) (σ' := sa σ f) fl5_ok [(5, .iload 4), (7, .aload_n 0), (8, .getfield 7), (11, .bipush 7), (13, .iaload)] (by decide +kernel) rfl rfl ?_
    refine g_icmp_ge (off := 41) (tgt := 55) (by decide +kernel) (by decide) (fun zc14 => ?_) (fun zc14 => ?_)
    · rw [hns, nI_leI (by omega) (by omega)] at zc14
      refine g_blk (pc' := 56) (loc' := [some (vR (8, 0, 0)), some (vI a), some (vI b), some (vI (prL f a b n)), some (vI (nI n))]) (st' := [vI (prL f a b n)]) (σ' := sa σ f) fl5_ok [(55, .iload_n 3)] (by decide +kernel) rfl rfl ?_
      obtain rfl : n = ns := by omega
      exact g_zret (by decide +kernel) (pr_bit f a b n) ⟨rfl, rfl⟩
    · rw [hns, nI_leI (by omega) (by omega)] at zc14
      exact absurd (by omega) zc14
  | succ k ih =>
    intro n hk
    refine g_blk (pc' := 14) (loc' := [some (vR (8, 0, 0)), some (vI a), some (vI b), some (vI (prL f a b n)), some (vI (nI n))]) (st' := [vI (f 7), vI (nI n)]) (σ' := sa σ f) fl5_ok [(5, .iload 4), (7, .aload_n 0), (8, .getfield 7), (11, .bipush 7), (13, .iaload)] (by decide +kernel) rfl rfl ?_
    refine g_icmp_ge (off := 41) (tgt := 55) (by decide +kernel) (by decide) (fun zc14 => ?_) (fun zc14 => ?_)
    · rw [hns, nI_leI (by omega) (by omega)] at zc14
      exact absurd zc14 (by omega)
    · rw [hns, nI_leI (by omega) (by omega)] at zc14
      refine g_blk (pc' := 18) (loc' := [some (vR (8, 0, 0)), some (vI a), some (vI b), some (vI (prL f a b n)), some (vI (nI n))]) (st' := [vI (prL f a b n)]) (σ' := sa σ f) fl5_ok [(17, .iload_n 3)] (by decide +kernel) rfl rfl ?_
      refine g_if_ne (off := 25) (tgt := 43) (by decide +kernel) (by decide) (fun zc18 => ?_) (fun zc18 => ?_)
      · refine g_blk (pc' := 5) (loc' := [some (vR (8, 0, 0)), some (vI a), some (vI b), some (vI (1 : Int32)), some (vI ((nI n) + (1 : Int32)))]) (st' := []) (σ' := sa σ f) fl5_ok [(43, .iconst 1), (44, .goto 4), (48, .istore_n 3), (49, .iinc 4 1), (52, .goto (-47))] (by decide +kernel) rfl rfl ?_
        have hstep : prL f a b (n + 1) = (1 : Int32) := by rw [prL, if_pos zc18]
        have hih := ih (n + 1) (by omega)
        rw [hstep] at hih
        rw [nI_1]
        exact hih
      · refine g_blk (pc' := 25) (loc' := [some (vR (8, 0, 0)), some (vI a), some (vI b), some (vI (prL f a b n)), some (vI (nI n))]) (st' := [vI (0 : Int32), vI (nI n), vR (8, 0, 0)]) (σ' := sa σ f) fl5_ok [(21, .aload_n 0), (22, .iload 4), (24, .iconst 0)] (by decide +kernel) rfl rfl ?_
        refine g_callVp (8, 0, 0) [vI (nI n), vI (0 : Int32)] [] vl_RX5_96 mi_X5_ofSwap (c_X5_ofSwap l (r := n) (c := 0) rfl rfl (by omega) (by omega)) rfl rfl rfl rfl ⟨Nat.le_of_ble_eq_true rfl, Nat.le_of_ble_eq_true rfl⟩ rfl (Nat.le_of_ble_eq_true rfl) (by decide +kernel) ?_
        refine g_blk (pc' := 29) (loc' := [some (vR (8, 0, 0)), some (vI a), some (vI b), some (vI (prL f a b n)), some (vI (nI n))]) (st' := [vI a, vI (mw f n 0)]) (σ' := sa σ f) fl5_ok [(28, .iload_n 1)] (by decide +kernel) rfl rfl ?_
        refine g_icmp_ne (off := 18) (tgt := 47) (by decide +kernel) (by decide) (fun zc29 => ?_) (fun zc29 => ?_)
        · refine g_blk (pc' := 5) (loc' := [some (vR (8, 0, 0)), some (vI a), some (vI b), some (vI (0 : Int32)), some (vI ((nI n) + (1 : Int32)))]) (st' := []) (σ' := sa σ f) fl5_ok [(47, .iconst 0), (48, .istore_n 3), (49, .iinc 4 1), (52, .goto (-47))] (by decide +kernel) rfl rfl ?_
          have hstep : prL f a b (n + 1) = (0 : Int32) := by rw [prL, if_neg (not_not_intro zc18), if_pos zc29]
          have hih := ih (n + 1) (by omega)
          rw [hstep] at hih
          rw [nI_1]
          exact hih
        · refine g_blk (pc' := 36) (loc' := [some (vR (8, 0, 0)), some (vI a), some (vI b), some (vI (prL f a b n)), some (vI (nI n))]) (st' := [vI (1 : Int32), vI (nI n), vR (8, 0, 0)]) (σ' := sa σ f) fl5_ok [(32, .aload_n 0), (33, .iload 4), (35, .iconst 1)] (by decide +kernel) rfl rfl ?_
          refine g_callVp (8, 0, 0) [vI (nI n), vI (1 : Int32)] [] vl_RX5_96 mi_X5_ofSwap (c_X5_ofSwap l (r := n) (c := 1) rfl rfl (by omega) (by omega)) rfl rfl rfl rfl ⟨Nat.le_of_ble_eq_true rfl, Nat.le_of_ble_eq_true rfl⟩ rfl (Nat.le_of_ble_eq_true rfl) (by decide +kernel) ?_
          refine g_blk (pc' := 40) (loc' := [some (vR (8, 0, 0)), some (vI a), some (vI b), some (vI (prL f a b n)), some (vI (nI n))]) (st' := [vI b, vI (mw f n 1)]) (σ' := sa σ f) fl5_ok [(39, .iload_n 2)] (by decide +kernel) rfl rfl ?_
          refine g_icmp_ne (off := 7) (tgt := 47) (by decide +kernel) (by decide) (fun zc40 => ?_) (fun zc40 => ?_)
          · refine g_blk (pc' := 5) (loc' := [some (vR (8, 0, 0)), some (vI a), some (vI b), some (vI (0 : Int32)), some (vI ((nI n) + (1 : Int32)))]) (st' := []) (σ' := sa σ f) fl5_ok [(47, .iconst 0), (48, .istore_n 3), (49, .iinc 4 1), (52, .goto (-47))] (by decide +kernel) rfl rfl ?_
            have hstep : prL f a b (n + 1) = (0 : Int32) := by rw [prL, if_neg (not_not_intro zc18), if_neg (not_not_intro zc29), if_pos zc40]
            have hih := ih (n + 1) (by omega)
            rw [hstep] at hih
            rw [nI_1]
            exact hih
          · refine g_blk (pc' := 5) (loc' := [some (vR (8, 0, 0)), some (vI a), some (vI b), some (vI (1 : Int32)), some (vI ((nI n) + (1 : Int32)))]) (st' := []) (σ' := sa σ f) fl5_ok [(43, .iconst 1), (44, .goto 4), (48, .istore_n 3), (49, .iinc 4 1), (52, .goto (-47))] (by decide +kernel) rfl rfl ?_
            have hstep : prL f a b (n + 1) = (1 : Int32) := by rw [prL, if_neg (not_not_intro zc18), if_neg (not_not_intro zc29), if_neg (not_not_intro zc40)]
            have hih := ih (n + 1) (by omega)
            rw [hstep] at hih
            rw [nI_1]
            exact hih
set_option maxHeartbeats 2000000 in
theorem c_X5_isProposed (l : Launch) {σ : Sg} {f : Nat → Int32} {ns : Nat} (a b : Int32) (hns : f 7 = nI ns) (h6 : ns ≤ 6) : Con l 1 yX5_isProposed cX5_isProposed 5 (some .boolean) [vR (8, 0, 0), vI a, vI b] (sa σ f) (pureP (prL f a b ns) (sa σ f)) := by
  refine con_of pn_X5_isProposed (Nat.le_of_ble_eq_true rfl) (fun hPK hok => ?_)
  show G l (Rm 1) RX5 cX5_isProposed 5 (some .boolean) _ 0 [some (vR (8, 0, 0)), some (vI a), some (vI b), none, none] [] (sa σ f)
  refine g_blk (pc' := 5) (loc' := [some (vR (8, 0, 0)), some (vI a), some (vI b), some (vI (0 : Int32)), some (vI (0 : Int32))]) (st' := []) (σ' := sa σ f) fl5_ok [(0, .iconst 0), (1, .istore_n 3), (2, .iconst 0), (3, .istore 4)] (by decide +kernel) rfl rfl ?_
  exact lp_X5_isProposed l hns h6 ns 0 (by omega)
set_option maxHeartbeats 2000000 in
theorem lp_X5_openTasks (l : Launch) {σ : Sg} {f : Nat → Int32} {nt : Nat} (hnt : f 3 = nI nt) (h12 : nt ≤ 12) : ∀ (k n : Nat), n + k = nt → G l (Rm 1) RX5 cX5_openTasks 3 (some .int) (pureP (opT f nt) (sa σ f)) 4 [some (vR (8, 0, 0)), some (vI (opT f n)), some (vI (nI n))] [] (sa σ f) := by
  intro k
  induction k with
  | zero =>
    intro n hk
    refine g_blk (pc' := 11) (loc' := [some (vR (8, 0, 0)), some (vI (opT f n)), some (vI (nI n))]) (st' := [vI (f 3), vI (nI n)]) (σ' := sa σ f) fl5_ok [(4, .iload_n 2), (5, .aload_n 0), (6, .getfield 7), (9, .iconst 3), (10, .iaload)] (by decide +kernel) rfl rfl ?_
    refine g_icmp_ge (off := 26) (tgt := 37) (by decide +kernel) (by decide) (fun zc11 => ?_) (fun zc11 => ?_)
    · rw [hnt, nI_leI (by omega) (by omega)] at zc11
      refine g_blk (pc' := 38) (loc' := [some (vR (8, 0, 0)), some (vI (opT f n)), some (vI (nI n))]) (st' := [vI (opT f n)]) (σ' := sa σ f) fl5_ok [(37, .iload_n 1)] (by decide +kernel) rfl rfl ?_
      obtain rfl : n = nt := by omega
      exact g_iret (by decide +kernel) ⟨rfl, rfl⟩
    · rw [hnt, nI_leI (by omega) (by omega)] at zc11
      exact absurd (by omega) zc11
  | succ k ih =>
    intro n hk
    refine g_blk (pc' := 11) (loc' := [some (vR (8, 0, 0)), some (vI (opT f n)), some (vI (nI n))]) (st' := [vI (f 3), vI (nI n)]) (σ' := sa σ f) fl5_ok [(4, .iload_n 2), (5, .aload_n 0), (6, .getfield 7), (9, .iconst 3), (10, .iaload)] (by decide +kernel) rfl rfl ?_
    refine g_icmp_ge (off := 26) (tgt := 37) (by decide +kernel) (by decide) (fun zc11 => ?_) (fun zc11 => ?_)
    · rw [hnt, nI_leI (by omega) (by omega)] at zc11
      exact absurd zc11 (by omega)
    · rw [hnt, nI_leI (by omega) (by omega)] at zc11
      refine g_blk (pc' := 18) (loc' := [some (vR (8, 0, 0)), some (vI (opT f n)), some (vI (nI n))]) (st' := [vI (3 : Int32), vI (nI n), vR (8, 0, 0), vI (opT f n)]) (σ' := sa σ f) fl5_ok [(14, .iload_n 1), (15, .aload_n 0), (16, .iload_n 2), (17, .iconst 3)] (by decide +kernel) rfl rfl ?_
      refine g_callVp (8, 0, 0) [vI (nI n), vI (3 : Int32)] [vI (opT f n)] vl_RX5_65 mi_X5_ofTask (c_X5_ofTask l (r := n) (c := 3) rfl rfl (by omega) (by omega)) rfl rfl rfl rfl ⟨Nat.le_of_ble_eq_true rfl, Nat.le_of_ble_eq_true rfl⟩ rfl (Nat.le_of_ble_eq_true rfl) (by decide +kernel) ?_
      refine g_if_ne (off := 7) (tgt := 28) (by decide +kernel) (by decide) (fun zc21 => ?_) (fun zc21 => ?_)
      · refine g_blk (pc' := 4) (loc' := [some (vR (8, 0, 0)), some (vI ((opT f n) + (0 : Int32))), some (vI ((nI n) + (1 : Int32)))]) (st' := []) (σ' := sa σ f) fl5_ok [(28, .iconst 0), (29, .iadd), (30, .istore_n 1), (31, .iinc 2 1), (34, .goto (-30))] (by decide +kernel) rfl rfl ?_
        have hstep : opT f (n + 1) = (opT f n) + (0 : Int32) := by rw [opT, if_pos zc21]
        have hih := ih (n + 1) (by omega)
        rw [hstep] at hih
        rw [nI_1]
        exact hih
      · refine g_blk (pc' := 4) (loc' := [some (vR (8, 0, 0)), some (vI ((opT f n) + (1 : Int32))), some (vI ((nI n) + (1 : Int32)))]) (st' := []) (σ' := sa σ f) fl5_ok [(24, .iconst 1), (25, .goto 4), (29, .iadd), (30, .istore_n 1), (31, .iinc 2 1), (34, .goto (-30))] (by decide +kernel) rfl rfl ?_
        have hstep : opT f (n + 1) = (opT f n) + (1 : Int32) := by rw [opT, if_neg (not_not_intro zc21)]
        have hih := ih (n + 1) (by omega)
        rw [hstep] at hih
        rw [nI_1]
        exact hih
set_option maxHeartbeats 2000000 in
theorem c_X5_openTasks (l : Launch) {σ : Sg} {f : Nat → Int32} {nt : Nat} (hnt : f 3 = nI nt) (h12 : nt ≤ 12) : Con l 1 yX5_openTasks cX5_openTasks 3 (some .int) [vR (8, 0, 0)] (sa σ f) (pureP (opT f nt) (sa σ f)) := by
  refine con_of pn_X5_openTasks (Nat.le_of_ble_eq_true rfl) (fun hPK hok => ?_)
  show G l (Rm 1) RX5 cX5_openTasks 3 (some .int) _ 0 [some (vR (8, 0, 0)), none, none] [] (sa σ f)
  refine g_blk (pc' := 4) (loc' := [some (vR (8, 0, 0)), some (vI (0 : Int32)), some (vI (0 : Int32))]) (st' := []) (σ' := sa σ f) fl5_ok [(0, .iconst 0), (1, .istore_n 1), (2, .iconst 0), (3, .istore_n 2)] (by decide +kernel) rfl rfl ?_
  exact lp_X5_openTasks l hnt h12 nt 0 (by omega)
set_option maxHeartbeats 2000000 in
theorem lp_X5_foulest (l : Launch) {σ : Sg} {f : Nat → Int32} {na : Nat} (hna : f 2 = nI na) (h6 : na ≤ 6) : ∀ (k n : Nat), n + k = na → G l (Rm 1) RX5 cX5_foulest 3 (some .int) (pureP (foL f na) (sa σ f)) 4 [some (vR (8, 0, 0)), some (vI (foL f n)), some (vI (nI n))] [] (sa σ f) := by
  intro k
  induction k with
  | zero =>
    intro n hk
    refine g_blk (pc' := 11) (loc' := [some (vR (8, 0, 0)), some (vI (foL f n)), some (vI (nI n))]) (st' := [vI (f 2), vI (nI n)]) (σ' := sa σ f) fl5_ok [(4, .iload_n 2), (5, .aload_n 0), (6, .getfield 7), (9, .iconst 2), (10, .iaload)] (by decide +kernel) rfl rfl ?_
    refine g_icmp_ge (off := 30) (tgt := 41) (by decide +kernel) (by decide) (fun zc11 => ?_) (fun zc11 => ?_)
    · rw [hna, nI_leI (by omega) (by omega)] at zc11
      refine g_blk (pc' := 42) (loc' := [some (vR (8, 0, 0)), some (vI (foL f n)), some (vI (nI n))]) (st' := [vI (foL f n)]) (σ' := sa σ f) fl5_ok [(41, .iload_n 1)] (by decide +kernel) rfl rfl ?_
      obtain rfl : n = na := by omega
      exact g_iret (by decide +kernel) ⟨rfl, rfl⟩
    · rw [hna, nI_leI (by omega) (by omega)] at zc11
      exact absurd (by omega) zc11
  | succ k ih =>
    intro n hk
    refine g_blk (pc' := 11) (loc' := [some (vR (8, 0, 0)), some (vI (foL f n)), some (vI (nI n))]) (st' := [vI (f 2), vI (nI n)]) (σ' := sa σ f) fl5_ok [(4, .iload_n 2), (5, .aload_n 0), (6, .getfield 7), (9, .iconst 2), (10, .iaload)] (by decide +kernel) rfl rfl ?_
    refine g_icmp_ge (off := 30) (tgt := 41) (by decide +kernel) (by decide) (fun zc11 => ?_) (fun zc11 => ?_)
    · rw [hna, nI_leI (by omega) (by omega)] at zc11
      exact absurd zc11 (by omega)
    · rw [hna, nI_leI (by omega) (by omega)] at zc11
      refine g_blk (pc' := 17) (loc' := [some (vR (8, 0, 0)), some (vI (foL f n)), some (vI (nI n))]) (st' := [vI (3 : Int32), vI (nI n), vR (8, 0, 0)]) (σ' := sa σ f) fl5_ok [(14, .aload_n 0), (15, .iload_n 2), (16, .iconst 3)] (by decide +kernel) rfl rfl ?_
      refine g_callVp (8, 0, 0) [vI (nI n), vI (3 : Int32)] [] vl_RX5_62 mi_X5_ofArea (c_X5_ofArea l (r := n) (c := 3) rfl rfl (by omega) (by omega)) rfl rfl rfl rfl ⟨Nat.le_of_ble_eq_true rfl, Nat.le_of_ble_eq_true rfl⟩ rfl (Nat.le_of_ble_eq_true rfl) (by decide +kernel) ?_
      refine g_blk (pc' := 21) (loc' := [some (vR (8, 0, 0)), some (vI (foL f n)), some (vI (nI n))]) (st' := [vI (foL f n), vI (ma f n 3)]) (σ' := sa σ f) fl5_ok [(20, .iload_n 1)] (by decide +kernel) rfl rfl ?_
      refine g_icmp_le (off := 12) (tgt := 33) (by decide +kernel) (by decide) (fun zc21 => ?_) (fun zc21 => ?_)
      · refine g_blk (pc' := 4) (loc' := [some (vR (8, 0, 0)), some (vI (foL f n)), some (vI ((nI n) + (1 : Int32)))]) (st' := []) (σ' := sa σ f) fl5_ok [(33, .iload_n 1), (34, .istore_n 1), (35, .iinc 2 1), (38, .goto (-34))] (by decide +kernel) rfl rfl ?_
        have hstep : foL f (n + 1) = foL f n := by rw [foL, if_pos zc21]
        have hih := ih (n + 1) (by omega)
        rw [hstep] at hih
        rw [nI_1]
        exact hih
      · refine g_blk (pc' := 27) (loc' := [some (vR (8, 0, 0)), some (vI (foL f n)), some (vI (nI n))]) (st' := [vI (3 : Int32), vI (nI n), vR (8, 0, 0)]) (σ' := sa σ f) fl5_ok [(24, .aload_n 0), (25, .iload_n 2), (26, .iconst 3)] (by decide +kernel) rfl rfl ?_
        refine g_callVp (8, 0, 0) [vI (nI n), vI (3 : Int32)] [] vl_RX5_62 mi_X5_ofArea (c_X5_ofArea l (r := n) (c := 3) rfl rfl (by omega) (by omega)) rfl rfl rfl rfl ⟨Nat.le_of_ble_eq_true rfl, Nat.le_of_ble_eq_true rfl⟩ rfl (Nat.le_of_ble_eq_true rfl) (by decide +kernel) ?_
        refine g_blk (pc' := 4) (loc' := [some (vR (8, 0, 0)), some (vI (ma f n 3)), some (vI ((nI n) + (1 : Int32)))]) (st' := []) (σ' := sa σ f) fl5_ok [(30, .goto 4), (34, .istore_n 1), (35, .iinc 2 1), (38, .goto (-34))] (by decide +kernel) rfl rfl ?_
        have hstep : foL f (n + 1) = ma f n 3 := by rw [foL, if_neg zc21]
        have hih := ih (n + 1) (by omega)
        rw [hstep] at hih
        rw [nI_1]
        exact hih
set_option maxHeartbeats 2000000 in
theorem c_X5_foulest (l : Launch) {σ : Sg} {f : Nat → Int32} {na : Nat} (hna : f 2 = nI na) (h6 : na ≤ 6) : Con l 1 yX5_foulest cX5_foulest 3 (some .int) [vR (8, 0, 0)] (sa σ f) (pureP (foL f na) (sa σ f)) := by
  refine con_of pn_X5_foulest (Nat.le_of_ble_eq_true rfl) (fun hPK hok => ?_)
  show G l (Rm 1) RX5 cX5_foulest 3 (some .int) _ 0 [some (vR (8, 0, 0)), none, none] [] (sa σ f)
  refine g_blk (pc' := 4) (loc' := [some (vR (8, 0, 0)), some (vI (0 : Int32)), some (vI (0 : Int32))]) (st' := []) (σ' := sa σ f) fl5_ok [(0, .iconst 0), (1, .istore_n 1), (2, .iconst 0), (3, .istore_n 2)] (by decide +kernel) rfl rfl ?_
  exact lp_X5_foulest l hna h6 na 0 (by omega)
set_option maxHeartbeats 2000000 in
theorem lp_X5_openOf0 (l : Launch) {σ : Sg} {f : Nat → Int32} {r nt : Nat} (hr : r < 8) (hnt : f 3 = nI nt) (h12 : nt ≤ 12) : ∀ (k n : Nat), n + k = nt → G l (Rm 1) RX5 cX5_openOf 5 (some .int) (pureP (opN f r nt) (sa σ f)) 5 [some (vR (8, 0, 0)), some (vI (nI r)), some (vI (0 : Int32)), some (vI (opN f r n)), some (vI (nI n))] [] (sa σ f) := by
  intro k
  induction k with
  | zero =>
    intro n hk
    refine g_blk (pc' := 13) (loc' := [some (vR (8, 0, 0)), some (vI (nI r)), some (vI (0 : Int32)), some (vI (opN f r n)), some (vI (nI n))]) (st' := [vI (f 3), vI (nI n)]) (σ' := sa σ f) fl5_ok [(5, .iload 4), (7, .aload_n 0), (8, .getfield 7), (11, .iconst 3), (12, .iaload)] (by decide +kernel) rfl rfl ?_
    refine g_icmp_ge (off := 40) (tgt := 53) (by decide +kernel) (by decide) (fun zc13 => ?_) (fun zc13 => ?_)
    · rw [hnt, nI_leI (by omega) (by omega)] at zc13
      refine g_blk (pc' := 54) (loc' := [some (vR (8, 0, 0)), some (vI (nI r)), some (vI (0 : Int32)), some (vI (opN f r n)), some (vI (nI n))]) (st' := [vI (0 : Int32)]) (σ' := sa σ f) fl5_ok [(53, .iload_n 2)] (by decide +kernel) rfl rfl ?_
      refine g_if_eq (off := 8) (tgt := 62) (by decide +kernel) (by decide) (fun zc54 => ?_) (fun zc54 => ?_)
      · refine g_blk (pc' := 63) (loc' := [some (vR (8, 0, 0)), some (vI (nI r)), some (vI (0 : Int32)), some (vI (opN f r n)), some (vI (nI n))]) (st' := [vI (opN f r n)]) (σ' := sa σ f) fl5_ok [(62, .iload_n 3)] (by decide +kernel) rfl rfl ?_
        obtain rfl : n = nt := by omega
        exact g_iret (by decide +kernel) ⟨rfl, rfl⟩
      · exact absurd zc54 (by decide)
    · rw [hnt, nI_leI (by omega) (by omega)] at zc13
      exact absurd (by omega) zc13
  | succ k ih =>
    intro n hk
    refine g_blk (pc' := 13) (loc' := [some (vR (8, 0, 0)), some (vI (nI r)), some (vI (0 : Int32)), some (vI (opN f r n)), some (vI (nI n))]) (st' := [vI (f 3), vI (nI n)]) (σ' := sa σ f) fl5_ok [(5, .iload 4), (7, .aload_n 0), (8, .getfield 7), (11, .iconst 3), (12, .iaload)] (by decide +kernel) rfl rfl ?_
    refine g_icmp_ge (off := 40) (tgt := 53) (by decide +kernel) (by decide) (fun zc13 => ?_) (fun zc13 => ?_)
    · rw [hnt, nI_leI (by omega) (by omega)] at zc13
      exact absurd zc13 (by omega)
    · rw [hnt, nI_leI (by omega) (by omega)] at zc13
      refine g_blk (pc' := 20) (loc' := [some (vR (8, 0, 0)), some (vI (nI r)), some (vI (0 : Int32)), some (vI (opN f r n)), some (vI (nI n))]) (st' := [vI (1 : Int32), vI (nI n), vR (8, 0, 0)]) (σ' := sa σ f) fl5_ok [(16, .aload_n 0), (17, .iload 4), (19, .iconst 1)] (by decide +kernel) rfl rfl ?_
      refine g_callVp (8, 0, 0) [vI (nI n), vI (1 : Int32)] [] vl_RX5_65 mi_X5_ofTask (c_X5_ofTask l (r := n) (c := 1) rfl rfl (by omega) (by omega)) rfl rfl rfl rfl ⟨Nat.le_of_ble_eq_true rfl, Nat.le_of_ble_eq_true rfl⟩ rfl (Nat.le_of_ble_eq_true rfl) (by decide +kernel) ?_
      refine g_blk (pc' := 24) (loc' := [some (vR (8, 0, 0)), some (vI (nI r)), some (vI (0 : Int32)), some (vI (opN f r n)), some (vI (nI n))]) (st' := [vI (nI r), vI (mk f n 1)]) (σ' := sa σ f) fl5_ok [(23, .iload_n 1)] (by decide +kernel) rfl rfl ?_
      refine g_icmp_ne (off := 23) (tgt := 47) (by decide +kernel) (by decide) (fun zc24 => ?_) (fun zc24 => ?_)
      · refine g_blk (pc' := 5) (loc' := [some (vR (8, 0, 0)), some (vI (nI r)), some (vI (0 : Int32)), some (vI (opN f r n)), some (vI ((nI n) + (1 : Int32)))]) (st' := []) (σ' := sa σ f) fl5_ok [(47, .iinc 4 1), (50, .goto (-45))] (by decide +kernel) rfl rfl ?_
        have hstep : opN f r (n + 1) = opN f r n := by rw [opN, if_pos zc24]
        have hih := ih (n + 1) (by omega)
        rw [hstep] at hih
        rw [nI_1]
        exact hih
      · refine g_blk (pc' := 31) (loc' := [some (vR (8, 0, 0)), some (vI (nI r)), some (vI (0 : Int32)), some (vI (opN f r n)), some (vI (nI n))]) (st' := [vI (3 : Int32), vI (nI n), vR (8, 0, 0)]) (σ' := sa σ f) fl5_ok [(27, .aload_n 0), (28, .iload 4), (30, .iconst 3)] (by decide +kernel) rfl rfl ?_
        refine g_callVp (8, 0, 0) [vI (nI n), vI (3 : Int32)] [] vl_RX5_65 mi_X5_ofTask (c_X5_ofTask l (r := n) (c := 3) rfl rfl (by omega) (by omega)) rfl rfl rfl rfl ⟨Nat.le_of_ble_eq_true rfl, Nat.le_of_ble_eq_true rfl⟩ rfl (Nat.le_of_ble_eq_true rfl) (by decide +kernel) ?_
        refine g_if_ne (off := 13) (tgt := 47) (by decide +kernel) (by decide) (fun zc34 => ?_) (fun zc34 => ?_)
        · refine g_blk (pc' := 5) (loc' := [some (vR (8, 0, 0)), some (vI (nI r)), some (vI (0 : Int32)), some (vI (opN f r n)), some (vI ((nI n) + (1 : Int32)))]) (st' := []) (σ' := sa σ f) fl5_ok [(47, .iinc 4 1), (50, .goto (-45))] (by decide +kernel) rfl rfl ?_
          have hstep : opN f r (n + 1) = opN f r n := by rw [opN, if_neg (not_not_intro zc24), if_pos zc34]
          have hih := ih (n + 1) (by omega)
          rw [hstep] at hih
          rw [nI_1]
          exact hih
        · refine g_blk (pc' := 38) (loc' := [some (vR (8, 0, 0)), some (vI (nI r)), some (vI (0 : Int32)), some (vI (opN f r n)), some (vI (nI n))]) (st' := [vI (0 : Int32)]) (σ' := sa σ f) fl5_ok [(37, .iload_n 2)] (by decide +kernel) rfl rfl ?_
          refine g_if_eq (off := 6) (tgt := 44) (by decide +kernel) (by decide) (fun zc38 => ?_) (fun zc38 => ?_)
          · refine g_blk (pc' := 5) (loc' := [some (vR (8, 0, 0)), some (vI (nI r)), some (vI (0 : Int32)), some (vI ((opN f r n) + (1 : Int32))), some (vI ((nI n) + (1 : Int32)))]) (st' := []) (σ' := sa σ f) fl5_ok [(44, .iinc 3 1), (47, .iinc 4 1), (50, .goto (-45))] (by decide +kernel) rfl rfl ?_
            have hstep : opN f r (n + 1) = (opN f r n) + (1 : Int32) := by rw [opN, if_neg (not_not_intro zc24), if_neg (not_not_intro zc34)]
            have hih := ih (n + 1) (by omega)
            rw [hstep] at hih
            rw [nI_1]
            exact hih
          · exact absurd zc38 (by decide)
set_option maxHeartbeats 2000000 in
theorem c_X5_openOf0 (l : Launch) {σ : Sg} {f : Nat → Int32} {x : Int32} {r nt : Nat} (hx : x = nI r) (hr : r < 8) (hnt : f 3 = nI nt) (h12 : nt ≤ 12) : Con l 1 yX5_openOf cX5_openOf 5 (some .int) [vR (8, 0, 0), vI x, vI (0 : Int32)] (sa σ f) (pureP (opN f r nt) (sa σ f)) := by
  subst hx
  refine con_of pn_X5_openOf (Nat.le_of_ble_eq_true rfl) (fun hPK hok => ?_)
  show G l (Rm 1) RX5 cX5_openOf 5 (some .int) _ 0 [some (vR (8, 0, 0)), some (vI (nI r)), some (vI (0 : Int32)), none, none] [] (sa σ f)
  refine g_blk (pc' := 5) (loc' := [some (vR (8, 0, 0)), some (vI (nI r)), some (vI (0 : Int32)), some (vI (0 : Int32)), some (vI (0 : Int32))]) (st' := []) (σ' := sa σ f) fl5_ok [(0, .iconst 0), (1, .istore_n 3), (2, .iconst 0), (3, .istore 4)] (by decide +kernel) rfl rfl ?_
  exact lp_X5_openOf0 l hr hnt h12 nt 0 (by omega)
set_option maxHeartbeats 2000000 in
theorem lp_X5_openOf1 (l : Launch) {σ : Sg} {f : Nat → Int32} {r nt : Nat} (hr : r < 8) (hnt : f 3 = nI nt) (h12 : nt ≤ 12) : ∀ (k n : Nat), n + k = nt → opF f r k n = opF f r nt 0 → G l (Rm 1) RX5 cX5_openOf 5 (some .int) (pureP (opF f r nt 0) (sa σ f)) 5 [some (vR (8, 0, 0)), some (vI (nI r)), some (vI (1 : Int32)), some (vI (0 : Int32)), some (vI (nI n))] [] (sa σ f) := by
  intro k
  induction k with
  | zero =>
    intro n hk hd
    refine g_blk (pc' := 13) (loc' := [some (vR (8, 0, 0)), some (vI (nI r)), some (vI (1 : Int32)), some (vI (0 : Int32)), some (vI (nI n))]) (st' := [vI (f 3), vI (nI n)]) (σ' := sa σ f) fl5_ok [(5, .iload 4), (7, .aload_n 0), (8, .getfield 7), (11, .iconst 3), (12, .iaload)] (by decide +kernel) rfl rfl ?_
    refine g_icmp_ge (off := 40) (tgt := 53) (by decide +kernel) (by decide) (fun zc13 => ?_) (fun zc13 => ?_)
    · rw [hnt, nI_leI (by omega) (by omega)] at zc13
      refine g_blk (pc' := 54) (loc' := [some (vR (8, 0, 0)), some (vI (nI r)), some (vI (1 : Int32)), some (vI (0 : Int32)), some (vI (nI n))]) (st' := [vI (1 : Int32)]) (σ' := sa σ f) fl5_ok [(53, .iload_n 2)] (by decide +kernel) rfl rfl ?_
      refine g_if_eq (off := 8) (tgt := 62) (by decide +kernel) (by decide) (fun zc54 => ?_) (fun zc54 => ?_)
      · exact absurd zc54 (by decide)
      · refine g_blk (pc' := 63) (loc' := [some (vR (8, 0, 0)), some (vI (nI r)), some (vI (1 : Int32)), some (vI (0 : Int32)), some (vI (nI n))]) (st' := [vI (-6 : Int32)]) (σ' := sa σ f) fl5_ok [(57, .bipush (-6)), (59, .goto 4)] (by decide +kernel) rfl rfl ?_
        exact g_iret (by decide +kernel) (by rw [← hd]; exact ⟨rfl, rfl⟩)
    · rw [hnt, nI_leI (by omega) (by omega)] at zc13
      exact absurd (by omega) zc13
  | succ k ih =>
    intro n hk hd
    refine g_blk (pc' := 13) (loc' := [some (vR (8, 0, 0)), some (vI (nI r)), some (vI (1 : Int32)), some (vI (0 : Int32)), some (vI (nI n))]) (st' := [vI (f 3), vI (nI n)]) (σ' := sa σ f) fl5_ok [(5, .iload 4), (7, .aload_n 0), (8, .getfield 7), (11, .iconst 3), (12, .iaload)] (by decide +kernel) rfl rfl ?_
    refine g_icmp_ge (off := 40) (tgt := 53) (by decide +kernel) (by decide) (fun zc13 => ?_) (fun zc13 => ?_)
    · rw [hnt, nI_leI (by omega) (by omega)] at zc13
      exact absurd zc13 (by omega)
    · rw [hnt, nI_leI (by omega) (by omega)] at zc13
      refine g_blk (pc' := 20) (loc' := [some (vR (8, 0, 0)), some (vI (nI r)), some (vI (1 : Int32)), some (vI (0 : Int32)), some (vI (nI n))]) (st' := [vI (1 : Int32), vI (nI n), vR (8, 0, 0)]) (σ' := sa σ f) fl5_ok [(16, .aload_n 0), (17, .iload 4), (19, .iconst 1)] (by decide +kernel) rfl rfl ?_
      refine g_callVp (8, 0, 0) [vI (nI n), vI (1 : Int32)] [] vl_RX5_65 mi_X5_ofTask (c_X5_ofTask l (r := n) (c := 1) rfl rfl (by omega) (by omega)) rfl rfl rfl rfl ⟨Nat.le_of_ble_eq_true rfl, Nat.le_of_ble_eq_true rfl⟩ rfl (Nat.le_of_ble_eq_true rfl) (by decide +kernel) ?_
      refine g_blk (pc' := 24) (loc' := [some (vR (8, 0, 0)), some (vI (nI r)), some (vI (1 : Int32)), some (vI (0 : Int32)), some (vI (nI n))]) (st' := [vI (nI r), vI (mk f n 1)]) (σ' := sa σ f) fl5_ok [(23, .iload_n 1)] (by decide +kernel) rfl rfl ?_
      refine g_icmp_ne (off := 23) (tgt := 47) (by decide +kernel) (by decide) (fun zc24 => ?_) (fun zc24 => ?_)
      · refine g_blk (pc' := 5) (loc' := [some (vR (8, 0, 0)), some (vI (nI r)), some (vI (1 : Int32)), some (vI (0 : Int32)), some (vI ((nI n) + (1 : Int32)))]) (st' := []) (σ' := sa σ f) fl5_ok [(47, .iinc 4 1), (50, .goto (-45))] (by decide +kernel) rfl rfl ?_
        rw [opF, if_pos zc24] at hd
        have hih := ih (n + 1) (by omega) hd
        rw [nI_1]
        exact hih
      · refine g_blk (pc' := 31) (loc' := [some (vR (8, 0, 0)), some (vI (nI r)), some (vI (1 : Int32)), some (vI (0 : Int32)), some (vI (nI n))]) (st' := [vI (3 : Int32), vI (nI n), vR (8, 0, 0)]) (σ' := sa σ f) fl5_ok [(27, .aload_n 0), (28, .iload 4), (30, .iconst 3)] (by decide +kernel) rfl rfl ?_
        refine g_callVp (8, 0, 0) [vI (nI n), vI (3 : Int32)] [] vl_RX5_65 mi_X5_ofTask (c_X5_ofTask l (r := n) (c := 3) rfl rfl (by omega) (by omega)) rfl rfl rfl rfl ⟨Nat.le_of_ble_eq_true rfl, Nat.le_of_ble_eq_true rfl⟩ rfl (Nat.le_of_ble_eq_true rfl) (by decide +kernel) ?_
        refine g_if_ne (off := 13) (tgt := 47) (by decide +kernel) (by decide) (fun zc34 => ?_) (fun zc34 => ?_)
        · refine g_blk (pc' := 5) (loc' := [some (vR (8, 0, 0)), some (vI (nI r)), some (vI (1 : Int32)), some (vI (0 : Int32)), some (vI ((nI n) + (1 : Int32)))]) (st' := []) (σ' := sa σ f) fl5_ok [(47, .iinc 4 1), (50, .goto (-45))] (by decide +kernel) rfl rfl ?_
          rw [opF, if_neg (not_not_intro zc24), if_pos zc34] at hd
          have hih := ih (n + 1) (by omega) hd
          rw [nI_1]
          exact hih
        · refine g_blk (pc' := 38) (loc' := [some (vR (8, 0, 0)), some (vI (nI r)), some (vI (1 : Int32)), some (vI (0 : Int32)), some (vI (nI n))]) (st' := [vI (1 : Int32)]) (σ' := sa σ f) fl5_ok [(37, .iload_n 2)] (by decide +kernel) rfl rfl ?_
          refine g_if_eq (off := 6) (tgt := 44) (by decide +kernel) (by decide) (fun zc38 => ?_) (fun zc38 => ?_)
          · exact absurd zc38 (by decide)
          · refine g_blk (pc' := 43) (loc' := [some (vR (8, 0, 0)), some (vI (nI r)), some (vI (1 : Int32)), some (vI (0 : Int32)), some (vI (nI n))]) (st' := [vI (nI n)]) (σ' := sa σ f) fl5_ok [(41, .iload 4)] (by decide +kernel) rfl rfl ?_
            exact g_iret (by decide +kernel) (by rw [← hd, opF, if_neg (not_not_intro zc24), if_neg (not_not_intro zc34)]; exact ⟨rfl, rfl⟩)
set_option maxHeartbeats 2000000 in
theorem c_X5_openOf1 (l : Launch) {σ : Sg} {f : Nat → Int32} {x : Int32} {r nt : Nat} (hx : x = nI r) (hr : r < 8) (hnt : f 3 = nI nt) (h12 : nt ≤ 12) : Con l 1 yX5_openOf cX5_openOf 5 (some .int) [vR (8, 0, 0), vI x, vI (1 : Int32)] (sa σ f) (pureP (opF f r nt 0) (sa σ f)) := by
  subst hx
  refine con_of pn_X5_openOf (Nat.le_of_ble_eq_true rfl) (fun hPK hok => ?_)
  show G l (Rm 1) RX5 cX5_openOf 5 (some .int) _ 0 [some (vR (8, 0, 0)), some (vI (nI r)), some (vI (1 : Int32)), none, none] [] (sa σ f)
  refine g_blk (pc' := 5) (loc' := [some (vR (8, 0, 0)), some (vI (nI r)), some (vI (1 : Int32)), some (vI (0 : Int32)), some (vI (0 : Int32))]) (st' := []) (σ' := sa σ f) fl5_ok [(0, .iconst 0), (1, .istore_n 3), (2, .iconst 0), (3, .istore 4)] (by decide +kernel) rfl rfl ?_
  exact lp_X5_openOf1 l hr hnt h12 nt 0 (by omega) rfl
set_option maxHeartbeats 2000000 in
theorem lp_X5_spread (l : Launch) {σ : Sg} {f : Nat → Int32} {pl : Int32} {nr nt : Nat} (hnr : f 1 = nI nr) (h8 : nr ≤ 8) (hnt : f 3 = nI nt) (h12 : nt ≤ 12) (hw : ∀ r, r < nr → ¬ mo f r 0 = 0) : ∀ (k r : Nat), r + k = nr → G l (Rm 2) RX5 cX5_spread 6 (some .int) (pureP (sprM f pl nt nr) (sa σ f)) 7 [some (vR (8, 0, 0)), some (vI pl), some (vI ((spM f pl nt r).1)), some (vI ((spM f pl nt r).2)), some (vI (nI r)), none] [] (sa σ f) := by
  intro k
  induction k with
  | zero =>
    intro r hk
    refine g_blk (pc' := 15) (loc' := [some (vR (8, 0, 0)), some (vI pl), some (vI ((spM f pl nt r).1)), some (vI ((spM f pl nt r).2)), some (vI (nI r)), none]) (st' := [vI (f 1), vI (nI r)]) (σ' := sa σ f) fl5_ok [(7, .iload 4), (9, .aload_n 0), (10, .getfield 7), (13, .iconst 1), (14, .iaload)] (by decide +kernel) rfl rfl ?_
    refine g_icmp_ge (off := 79) (tgt := 94) (by decide +kernel) (by decide) (fun zc15 => ?_) (fun zc15 => ?_)
    · rw [hnr, nI_leI (by omega) (by omega)] at zc15
      refine g_blk (pc' := 97) (loc' := [some (vR (8, 0, 0)), some (vI pl), some (vI ((spM f pl nt r).1)), some (vI ((spM f pl nt r).2)), some (vI (nI r)), none]) (st' := [vI (((spM f pl nt r).2) - ((spM f pl nt r).1))]) (σ' := sa σ f) fl5_ok [(94, .iload_n 3), (95, .iload_n 2), (96, .isub)] (by decide +kernel) rfl rfl ?_
      obtain rfl : r = nr := by omega
      exact g_iret (by decide +kernel) ⟨rfl, rfl⟩
    · rw [hnr, nI_leI (by omega) (by omega)] at zc15
      exact absurd (by omega) zc15
  | succ k ih =>
    intro r hk
    refine g_blk (pc' := 15) (loc' := [some (vR (8, 0, 0)), some (vI pl), some (vI ((spM f pl nt r).1)), some (vI ((spM f pl nt r).2)), some (vI (nI r)), none]) (st' := [vI (f 1), vI (nI r)]) (σ' := sa σ f) fl5_ok [(7, .iload 4), (9, .aload_n 0), (10, .getfield 7), (13, .iconst 1), (14, .iaload)] (by decide +kernel) rfl rfl ?_
    refine g_icmp_ge (off := 79) (tgt := 94) (by decide +kernel) (by decide) (fun zc15 => ?_) (fun zc15 => ?_)
    · rw [hnr, nI_leI (by omega) (by omega)] at zc15
      exact absurd zc15 (by omega)
    · rw [hnr, nI_leI (by omega) (by omega)] at zc15
      refine g_blk (pc' := 22) (loc' := [some (vR (8, 0, 0)), some (vI pl), some (vI ((spM f pl nt r).1)), some (vI ((spM f pl nt r).2)), some (vI (nI r)), none]) (st' := [vI pl, vI (1000 : Int32)]) (σ' := sa σ f) fl5_ok [(18, .sipush 1000), (21, .iload_n 1)] (by decide +kernel) rfl rfl ?_
      refine g_if_eq (off := 12) (tgt := 34) (by decide +kernel) (by decide) (fun zc22 => ?_) (fun zc22 => ?_)
      · refine g_blk (pc' := 38) (loc' := [some (vR (8, 0, 0)), some (vI pl), some (vI ((spM f pl nt r).1)), some (vI ((spM f pl nt r).2)), some (vI (nI r)), none]) (st' := [vI (1 : Int32), vI (nI r), vR (8, 0, 0), vI (1000 : Int32)]) (σ' := sa σ f) fl5_ok [(34, .aload_n 0), (35, .iload 4), (37, .iconst 1)] (by decide +kernel) rfl rfl ?_
        refine g_callVp (8, 0, 0) [vI (nI r), vI (1 : Int32)] [vI (1000 : Int32)] vl_RX5_44 mi_X5_of (c_X5_of l (r := r) (c := 1) rfl rfl (by omega) (by omega)) rfl rfl rfl rfl ⟨Nat.le_of_ble_eq_true rfl, Nat.le_of_ble_eq_true rfl⟩ rfl (Nat.le_of_ble_eq_true rfl) (by decide +kernel) ?_
        refine g_blk (pc' := 46) (loc' := [some (vR (8, 0, 0)), some (vI pl), some (vI ((spM f pl nt r).1)), some (vI ((spM f pl nt r).2)), some (vI (nI r)), none]) (st' := [vI (0 : Int32), vI (nI r), vR (8, 0, 0), vI ((1000 : Int32) * (mo f r 1))]) (σ' := sa σ f) fl5_ok [(41, .imul), (42, .aload_n 0), (43, .iload 4), (45, .iconst 0)] (by decide +kernel) rfl rfl ?_
        refine g_callVp (8, 0, 0) [vI (nI r), vI (0 : Int32)] [vI ((1000 : Int32) * (mo f r 1))] vl_RX5_44 mi_X5_of (c_X5_of l (r := r) (c := 0) rfl rfl (by omega) (by omega)) rfl rfl rfl rfl ⟨Nat.le_of_ble_eq_true rfl, Nat.le_of_ble_eq_true rfl⟩ rfl (Nat.le_of_ble_eq_true rfl) (by decide +kernel) ?_
        refine g_idiv (hy := hw r (by omega)) (hd := by decide +kernel) (k := ?_)
        refine g_blk (pc' := 54) (loc' := [some (vR (8, 0, 0)), some (vI pl), some (vI ((spM f pl nt r).1)), some (vI ((spM f pl nt r).2)), some (vI (nI r)), some (vI (((1000 : Int32) * (mo f r 1)) / (mo f r 0)))]) (st' := [vI (nI r)]) (σ' := sa σ f) fl5_ok [(50, .istore 5), (52, .iload 4)] (by decide +kernel) rfl rfl ?_
        refine g_if_eq (off := 9) (tgt := 63) (by decide +kernel) (by decide) (fun zc54 => ?_) (fun zc54 => ?_)
        · refine g_blk (pc' := 72) (loc' := [some (vR (8, 0, 0)), some (vI pl), some (vI (((1000 : Int32) * (mo f r 1)) / (mo f r 0))), some (vI ((spM f pl nt r).2)), some (vI (nI r)), some (vI (((1000 : Int32) * (mo f r 1)) / (mo f r 0)))]) (st' := [vI (nI r)]) (σ' := sa σ f) fl5_ok [(63, .iload 5), (65, .goto 4), (69, .istore_n 2), (70, .iload 4)] (by decide +kernel) rfl rfl ?_
          refine g_if_eq (off := 9) (tgt := 81) (by decide +kernel) (by decide) (fun zc72 => ?_) (fun zc72 => ?_)
          · refine g_blk (pc' := 7) (loc' := [some (vR (8, 0, 0)), some (vI pl), some (vI (((1000 : Int32) * (mo f r 1)) / (mo f r 0))), some (vI (((1000 : Int32) * (mo f r 1)) / (mo f r 0))), some (vI ((nI r) + (1 : Int32))), some (vI (((1000 : Int32) * (mo f r 1)) / (mo f r 0)))]) (st' := []) (σ' := sa σ f) fl5_ok [(81, .iload 5), (83, .goto 4), (87, .istore_n 3), (88, .iinc 4 1), (91, .goto (-84))] (by decide +kernel) rfl rfl ?_
            have hrt : rtM f pl nt r = ((1000 : Int32) * (mo f r 1)) / (mo f r 0) := by rw [rtM, if_pos zc22]
            rw [← hrt]
            have h1 : (spM f pl nt (r + 1)).1 = rtM f pl nt r := by
              show (if nI r = 0 then _ else _) = _
              rw [if_pos zc54]
            have h2 : (spM f pl nt (r + 1)).2 = rtM f pl nt r := by
              show (if nI r = 0 then _ else _) = _
              rw [if_pos zc72]
            try rw [← hrt]
            have hih := ih (r + 1) (by omega)
            rw [h1, h2] at hih
            rw [nI_1]
            exact g_sub (loc' := [some (vR (8, 0, 0)), some (vI pl), some (vI (rtM f pl nt r)), some (vI (rtM f pl nt r)), some (vI (nI (r + 1))), none]) ⟨Or.inr rfl, Or.inr rfl, Or.inr rfl, Or.inr rfl, Or.inr rfl, Or.inl rfl, trivial⟩ hih
          · refine g_blk (pc' := 78) (loc' := [some (vR (8, 0, 0)), some (vI pl), some (vI (((1000 : Int32) * (mo f r 1)) / (mo f r 0))), some (vI ((spM f pl nt r).2)), some (vI (nI r)), some (vI (((1000 : Int32) * (mo f r 1)) / (mo f r 0)))]) (st' := [vI ((spM f pl nt r).2), vI (((1000 : Int32) * (mo f r 1)) / (mo f r 0))]) (σ' := sa σ f) fl5_ok [(75, .iload 5), (77, .iload_n 3)] (by decide +kernel) rfl rfl ?_
            refine g_icmp_le (off := 8) (tgt := 86) (by decide +kernel) (by decide) (fun zc78 => ?_) (fun zc78 => ?_)
            · refine g_blk (pc' := 7) (loc' := [some (vR (8, 0, 0)), some (vI pl), some (vI (((1000 : Int32) * (mo f r 1)) / (mo f r 0))), some (vI ((spM f pl nt r).2)), some (vI ((nI r) + (1 : Int32))), some (vI (((1000 : Int32) * (mo f r 1)) / (mo f r 0)))]) (st' := []) (σ' := sa σ f) fl5_ok [(86, .iload_n 3), (87, .istore_n 3), (88, .iinc 4 1), (91, .goto (-84))] (by decide +kernel) rfl rfl ?_
              have hrt : rtM f pl nt r = ((1000 : Int32) * (mo f r 1)) / (mo f r 0) := by rw [rtM, if_pos zc22]
              rw [← hrt]
              rw [← hrt] at zc78
              have h1 : (spM f pl nt (r + 1)).1 = rtM f pl nt r := by
                show (if nI r = 0 then _ else _) = _
                rw [if_pos zc54]
              have h2 : (spM f pl nt (r + 1)).2 = (spM f pl nt r).2 := by
                show (if nI r = 0 then _ else _) = _
                rw [if_neg zc72, if_pos zc78]
              try rw [← hrt]
              have hih := ih (r + 1) (by omega)
              rw [h1, h2] at hih
              rw [nI_1]
              exact g_sub (loc' := [some (vR (8, 0, 0)), some (vI pl), some (vI (rtM f pl nt r)), some (vI ((spM f pl nt r).2)), some (vI (nI (r + 1))), none]) ⟨Or.inr rfl, Or.inr rfl, Or.inr rfl, Or.inr rfl, Or.inr rfl, Or.inl rfl, trivial⟩ hih
            · refine g_blk (pc' := 7) (loc' := [some (vR (8, 0, 0)), some (vI pl), some (vI (((1000 : Int32) * (mo f r 1)) / (mo f r 0))), some (vI (((1000 : Int32) * (mo f r 1)) / (mo f r 0))), some (vI ((nI r) + (1 : Int32))), some (vI (((1000 : Int32) * (mo f r 1)) / (mo f r 0)))]) (st' := []) (σ' := sa σ f) fl5_ok [(81, .iload 5), (83, .goto 4), (87, .istore_n 3), (88, .iinc 4 1), (91, .goto (-84))] (by decide +kernel) rfl rfl ?_
              have hrt : rtM f pl nt r = ((1000 : Int32) * (mo f r 1)) / (mo f r 0) := by rw [rtM, if_pos zc22]
              rw [← hrt]
              rw [← hrt] at zc78
              have h1 : (spM f pl nt (r + 1)).1 = rtM f pl nt r := by
                show (if nI r = 0 then _ else _) = _
                rw [if_pos zc54]
              have h2 : (spM f pl nt (r + 1)).2 = rtM f pl nt r := by
                show (if nI r = 0 then _ else _) = _
                rw [if_neg zc72, if_neg zc78]
              try rw [← hrt]
              have hih := ih (r + 1) (by omega)
              rw [h1, h2] at hih
              rw [nI_1]
              exact g_sub (loc' := [some (vR (8, 0, 0)), some (vI pl), some (vI (rtM f pl nt r)), some (vI (rtM f pl nt r)), some (vI (nI (r + 1))), none]) ⟨Or.inr rfl, Or.inr rfl, Or.inr rfl, Or.inr rfl, Or.inr rfl, Or.inl rfl, trivial⟩ hih
        · refine g_blk (pc' := 60) (loc' := [some (vR (8, 0, 0)), some (vI pl), some (vI ((spM f pl nt r).1)), some (vI ((spM f pl nt r).2)), some (vI (nI r)), some (vI (((1000 : Int32) * (mo f r 1)) / (mo f r 0)))]) (st' := [vI ((spM f pl nt r).1), vI (((1000 : Int32) * (mo f r 1)) / (mo f r 0))]) (σ' := sa σ f) fl5_ok [(57, .iload 5), (59, .iload_n 2)] (by decide +kernel) rfl rfl ?_
          refine g_icmp_ge (off := 8) (tgt := 68) (by decide +kernel) (by decide) (fun zc60 => ?_) (fun zc60 => ?_)
          · refine g_blk (pc' := 72) (loc' := [some (vR (8, 0, 0)), some (vI pl), some (vI ((spM f pl nt r).1)), some (vI ((spM f pl nt r).2)), some (vI (nI r)), some (vI (((1000 : Int32) * (mo f r 1)) / (mo f r 0)))]) (st' := [vI (nI r)]) (σ' := sa σ f) fl5_ok [(68, .iload_n 2), (69, .istore_n 2), (70, .iload 4)] (by decide +kernel) rfl rfl ?_
            refine g_if_eq (off := 9) (tgt := 81) (by decide +kernel) (by decide) (fun zc72 => ?_) (fun zc72 => ?_)
            · refine g_blk (pc' := 7) (loc' := [some (vR (8, 0, 0)), some (vI pl), some (vI ((spM f pl nt r).1)), some (vI (((1000 : Int32) * (mo f r 1)) / (mo f r 0))), some (vI ((nI r) + (1 : Int32))), some (vI (((1000 : Int32) * (mo f r 1)) / (mo f r 0)))]) (st' := []) (σ' := sa σ f) fl5_ok [(81, .iload 5), (83, .goto 4), (87, .istore_n 3), (88, .iinc 4 1), (91, .goto (-84))] (by decide +kernel) rfl rfl ?_
              have hrt : rtM f pl nt r = ((1000 : Int32) * (mo f r 1)) / (mo f r 0) := by rw [rtM, if_pos zc22]
              rw [← hrt]
              rw [← hrt] at zc60
              have h1 : (spM f pl nt (r + 1)).1 = (spM f pl nt r).1 := by
                show (if nI r = 0 then _ else _) = _
                rw [if_neg zc54, if_pos zc60]
              have h2 : (spM f pl nt (r + 1)).2 = rtM f pl nt r := by
                show (if nI r = 0 then _ else _) = _
                rw [if_pos zc72]
              try rw [← hrt]
              have hih := ih (r + 1) (by omega)
              rw [h1, h2] at hih
              rw [nI_1]
              exact g_sub (loc' := [some (vR (8, 0, 0)), some (vI pl), some (vI ((spM f pl nt r).1)), some (vI (rtM f pl nt r)), some (vI (nI (r + 1))), none]) ⟨Or.inr rfl, Or.inr rfl, Or.inr rfl, Or.inr rfl, Or.inr rfl, Or.inl rfl, trivial⟩ hih
            · refine g_blk (pc' := 78) (loc' := [some (vR (8, 0, 0)), some (vI pl), some (vI ((spM f pl nt r).1)), some (vI ((spM f pl nt r).2)), some (vI (nI r)), some (vI (((1000 : Int32) * (mo f r 1)) / (mo f r 0)))]) (st' := [vI ((spM f pl nt r).2), vI (((1000 : Int32) * (mo f r 1)) / (mo f r 0))]) (σ' := sa σ f) fl5_ok [(75, .iload 5), (77, .iload_n 3)] (by decide +kernel) rfl rfl ?_
              refine g_icmp_le (off := 8) (tgt := 86) (by decide +kernel) (by decide) (fun zc78 => ?_) (fun zc78 => ?_)
              · refine g_blk (pc' := 7) (loc' := [some (vR (8, 0, 0)), some (vI pl), some (vI ((spM f pl nt r).1)), some (vI ((spM f pl nt r).2)), some (vI ((nI r) + (1 : Int32))), some (vI (((1000 : Int32) * (mo f r 1)) / (mo f r 0)))]) (st' := []) (σ' := sa σ f) fl5_ok [(86, .iload_n 3), (87, .istore_n 3), (88, .iinc 4 1), (91, .goto (-84))] (by decide +kernel) rfl rfl ?_
                have hrt : rtM f pl nt r = ((1000 : Int32) * (mo f r 1)) / (mo f r 0) := by rw [rtM, if_pos zc22]
                rw [← hrt]
                rw [← hrt] at zc60
                rw [← hrt] at zc78
                have h1 : (spM f pl nt (r + 1)).1 = (spM f pl nt r).1 := by
                  show (if nI r = 0 then _ else _) = _
                  rw [if_neg zc54, if_pos zc60]
                have h2 : (spM f pl nt (r + 1)).2 = (spM f pl nt r).2 := by
                  show (if nI r = 0 then _ else _) = _
                  rw [if_neg zc72, if_pos zc78]
                try rw [← hrt]
                have hih := ih (r + 1) (by omega)
                rw [h1, h2] at hih
                rw [nI_1]
                exact g_sub (loc' := [some (vR (8, 0, 0)), some (vI pl), some (vI ((spM f pl nt r).1)), some (vI ((spM f pl nt r).2)), some (vI (nI (r + 1))), none]) ⟨Or.inr rfl, Or.inr rfl, Or.inr rfl, Or.inr rfl, Or.inr rfl, Or.inl rfl, trivial⟩ hih
              · refine g_blk (pc' := 7) (loc' := [some (vR (8, 0, 0)), some (vI pl), some (vI ((spM f pl nt r).1)), some (vI (((1000 : Int32) * (mo f r 1)) / (mo f r 0))), some (vI ((nI r) + (1 : Int32))), some (vI (((1000 : Int32) * (mo f r 1)) / (mo f r 0)))]) (st' := []) (σ' := sa σ f) fl5_ok [(81, .iload 5), (83, .goto 4), (87, .istore_n 3), (88, .iinc 4 1), (91, .goto (-84))] (by decide +kernel) rfl rfl ?_
                have hrt : rtM f pl nt r = ((1000 : Int32) * (mo f r 1)) / (mo f r 0) := by rw [rtM, if_pos zc22]
                rw [← hrt]
                rw [← hrt] at zc60
                rw [← hrt] at zc78
                have h1 : (spM f pl nt (r + 1)).1 = (spM f pl nt r).1 := by
                  show (if nI r = 0 then _ else _) = _
                  rw [if_neg zc54, if_pos zc60]
                have h2 : (spM f pl nt (r + 1)).2 = rtM f pl nt r := by
                  show (if nI r = 0 then _ else _) = _
                  rw [if_neg zc72, if_neg zc78]
                try rw [← hrt]
                have hih := ih (r + 1) (by omega)
                rw [h1, h2] at hih
                rw [nI_1]
                exact g_sub (loc' := [some (vR (8, 0, 0)), some (vI pl), some (vI ((spM f pl nt r).1)), some (vI (rtM f pl nt r)), some (vI (nI (r + 1))), none]) ⟨Or.inr rfl, Or.inr rfl, Or.inr rfl, Or.inr rfl, Or.inr rfl, Or.inl rfl, trivial⟩ hih
          · refine g_blk (pc' := 72) (loc' := [some (vR (8, 0, 0)), some (vI pl), some (vI (((1000 : Int32) * (mo f r 1)) / (mo f r 0))), some (vI ((spM f pl nt r).2)), some (vI (nI r)), some (vI (((1000 : Int32) * (mo f r 1)) / (mo f r 0)))]) (st' := [vI (nI r)]) (σ' := sa σ f) fl5_ok [(63, .iload 5), (65, .goto 4), (69, .istore_n 2), (70, .iload 4)] (by decide +kernel) rfl rfl ?_
            refine g_if_eq (off := 9) (tgt := 81) (by decide +kernel) (by decide) (fun zc72 => ?_) (fun zc72 => ?_)
            · refine g_blk (pc' := 7) (loc' := [some (vR (8, 0, 0)), some (vI pl), some (vI (((1000 : Int32) * (mo f r 1)) / (mo f r 0))), some (vI (((1000 : Int32) * (mo f r 1)) / (mo f r 0))), some (vI ((nI r) + (1 : Int32))), some (vI (((1000 : Int32) * (mo f r 1)) / (mo f r 0)))]) (st' := []) (σ' := sa σ f) fl5_ok [(81, .iload 5), (83, .goto 4), (87, .istore_n 3), (88, .iinc 4 1), (91, .goto (-84))] (by decide +kernel) rfl rfl ?_
              have hrt : rtM f pl nt r = ((1000 : Int32) * (mo f r 1)) / (mo f r 0) := by rw [rtM, if_pos zc22]
              rw [← hrt]
              rw [← hrt] at zc60
              have h1 : (spM f pl nt (r + 1)).1 = rtM f pl nt r := by
                show (if nI r = 0 then _ else _) = _
                rw [if_neg zc54, if_neg zc60]
              have h2 : (spM f pl nt (r + 1)).2 = rtM f pl nt r := by
                show (if nI r = 0 then _ else _) = _
                rw [if_pos zc72]
              try rw [← hrt]
              have hih := ih (r + 1) (by omega)
              rw [h1, h2] at hih
              rw [nI_1]
              exact g_sub (loc' := [some (vR (8, 0, 0)), some (vI pl), some (vI (rtM f pl nt r)), some (vI (rtM f pl nt r)), some (vI (nI (r + 1))), none]) ⟨Or.inr rfl, Or.inr rfl, Or.inr rfl, Or.inr rfl, Or.inr rfl, Or.inl rfl, trivial⟩ hih
            · refine g_blk (pc' := 78) (loc' := [some (vR (8, 0, 0)), some (vI pl), some (vI (((1000 : Int32) * (mo f r 1)) / (mo f r 0))), some (vI ((spM f pl nt r).2)), some (vI (nI r)), some (vI (((1000 : Int32) * (mo f r 1)) / (mo f r 0)))]) (st' := [vI ((spM f pl nt r).2), vI (((1000 : Int32) * (mo f r 1)) / (mo f r 0))]) (σ' := sa σ f) fl5_ok [(75, .iload 5), (77, .iload_n 3)] (by decide +kernel) rfl rfl ?_
              refine g_icmp_le (off := 8) (tgt := 86) (by decide +kernel) (by decide) (fun zc78 => ?_) (fun zc78 => ?_)
              · refine g_blk (pc' := 7) (loc' := [some (vR (8, 0, 0)), some (vI pl), some (vI (((1000 : Int32) * (mo f r 1)) / (mo f r 0))), some (vI ((spM f pl nt r).2)), some (vI ((nI r) + (1 : Int32))), some (vI (((1000 : Int32) * (mo f r 1)) / (mo f r 0)))]) (st' := []) (σ' := sa σ f) fl5_ok [(86, .iload_n 3), (87, .istore_n 3), (88, .iinc 4 1), (91, .goto (-84))] (by decide +kernel) rfl rfl ?_
                have hrt : rtM f pl nt r = ((1000 : Int32) * (mo f r 1)) / (mo f r 0) := by rw [rtM, if_pos zc22]
                rw [← hrt]
                rw [← hrt] at zc60
                rw [← hrt] at zc78
                have h1 : (spM f pl nt (r + 1)).1 = rtM f pl nt r := by
                  show (if nI r = 0 then _ else _) = _
                  rw [if_neg zc54, if_neg zc60]
                have h2 : (spM f pl nt (r + 1)).2 = (spM f pl nt r).2 := by
                  show (if nI r = 0 then _ else _) = _
                  rw [if_neg zc72, if_pos zc78]
                try rw [← hrt]
                have hih := ih (r + 1) (by omega)
                rw [h1, h2] at hih
                rw [nI_1]
                exact g_sub (loc' := [some (vR (8, 0, 0)), some (vI pl), some (vI (rtM f pl nt r)), some (vI ((spM f pl nt r).2)), some (vI (nI (r + 1))), none]) ⟨Or.inr rfl, Or.inr rfl, Or.inr rfl, Or.inr rfl, Or.inr rfl, Or.inl rfl, trivial⟩ hih
              · refine g_blk (pc' := 7) (loc' := [some (vR (8, 0, 0)), some (vI pl), some (vI (((1000 : Int32) * (mo f r 1)) / (mo f r 0))), some (vI (((1000 : Int32) * (mo f r 1)) / (mo f r 0))), some (vI ((nI r) + (1 : Int32))), some (vI (((1000 : Int32) * (mo f r 1)) / (mo f r 0)))]) (st' := []) (σ' := sa σ f) fl5_ok [(81, .iload 5), (83, .goto 4), (87, .istore_n 3), (88, .iinc 4 1), (91, .goto (-84))] (by decide +kernel) rfl rfl ?_
                have hrt : rtM f pl nt r = ((1000 : Int32) * (mo f r 1)) / (mo f r 0) := by rw [rtM, if_pos zc22]
                rw [← hrt]
                rw [← hrt] at zc60
                rw [← hrt] at zc78
                have h1 : (spM f pl nt (r + 1)).1 = rtM f pl nt r := by
                  show (if nI r = 0 then _ else _) = _
                  rw [if_neg zc54, if_neg zc60]
                have h2 : (spM f pl nt (r + 1)).2 = rtM f pl nt r := by
                  show (if nI r = 0 then _ else _) = _
                  rw [if_neg zc72, if_neg zc78]
                try rw [← hrt]
                have hih := ih (r + 1) (by omega)
                rw [h1, h2] at hih
                rw [nI_1]
                exact g_sub (loc' := [some (vR (8, 0, 0)), some (vI pl), some (vI (rtM f pl nt r)), some (vI (rtM f pl nt r)), some (vI (nI (r + 1))), none]) ⟨Or.inr rfl, Or.inr rfl, Or.inr rfl, Or.inr rfl, Or.inr rfl, Or.inl rfl, trivial⟩ hih
      · refine g_blk (pc' := 28) (loc' := [some (vR (8, 0, 0)), some (vI pl), some (vI ((spM f pl nt r).1)), some (vI ((spM f pl nt r).2)), some (vI (nI r)), none]) (st' := [vI (nI r), vR (8, 0, 0), vI (1000 : Int32)]) (σ' := sa σ f) fl5_ok [(25, .aload_n 0), (26, .iload 4)] (by decide +kernel) rfl rfl ?_
        refine g_callVp (8, 0, 0) [vI (nI r)] [vI (1000 : Int32)] vl_RX5_71 mi_X5_loadOf (c_X5_loadOf l (r := r) rfl (by omega) hnt (by omega)) rfl rfl rfl rfl ⟨Nat.le_of_ble_eq_true rfl, Nat.le_of_ble_eq_true rfl⟩ rfl (Nat.le_of_ble_eq_true rfl) (by decide +kernel) ?_
        refine g_blk (pc' := 46) (loc' := [some (vR (8, 0, 0)), some (vI pl), some (vI ((spM f pl nt r).1)), some (vI ((spM f pl nt r).2)), some (vI (nI r)), none]) (st' := [vI (0 : Int32), vI (nI r), vR (8, 0, 0), vI ((1000 : Int32) * (lm f r nt))]) (σ' := sa σ f) fl5_ok [(31, .goto 10), (41, .imul), (42, .aload_n 0), (43, .iload 4), (45, .iconst 0)] (by decide +kernel) rfl rfl ?_
        refine g_callVp (8, 0, 0) [vI (nI r), vI (0 : Int32)] [vI ((1000 : Int32) * (lm f r nt))] vl_RX5_44 mi_X5_of (c_X5_of l (r := r) (c := 0) rfl rfl (by omega) (by omega)) rfl rfl rfl rfl ⟨Nat.le_of_ble_eq_true rfl, Nat.le_of_ble_eq_true rfl⟩ rfl (Nat.le_of_ble_eq_true rfl) (by decide +kernel) ?_
        refine g_idiv (hy := hw r (by omega)) (hd := by decide +kernel) (k := ?_)
        refine g_blk (pc' := 54) (loc' := [some (vR (8, 0, 0)), some (vI pl), some (vI ((spM f pl nt r).1)), some (vI ((spM f pl nt r).2)), some (vI (nI r)), some (vI (((1000 : Int32) * (lm f r nt)) / (mo f r 0)))]) (st' := [vI (nI r)]) (σ' := sa σ f) fl5_ok [(50, .istore 5), (52, .iload 4)] (by decide +kernel) rfl rfl ?_
        refine g_if_eq (off := 9) (tgt := 63) (by decide +kernel) (by decide) (fun zc54 => ?_) (fun zc54 => ?_)
        · refine g_blk (pc' := 72) (loc' := [some (vR (8, 0, 0)), some (vI pl), some (vI (((1000 : Int32) * (lm f r nt)) / (mo f r 0))), some (vI ((spM f pl nt r).2)), some (vI (nI r)), some (vI (((1000 : Int32) * (lm f r nt)) / (mo f r 0)))]) (st' := [vI (nI r)]) (σ' := sa σ f) fl5_ok [(63, .iload 5), (65, .goto 4), (69, .istore_n 2), (70, .iload 4)] (by decide +kernel) rfl rfl ?_
          refine g_if_eq (off := 9) (tgt := 81) (by decide +kernel) (by decide) (fun zc72 => ?_) (fun zc72 => ?_)
          · refine g_blk (pc' := 7) (loc' := [some (vR (8, 0, 0)), some (vI pl), some (vI (((1000 : Int32) * (lm f r nt)) / (mo f r 0))), some (vI (((1000 : Int32) * (lm f r nt)) / (mo f r 0))), some (vI ((nI r) + (1 : Int32))), some (vI (((1000 : Int32) * (lm f r nt)) / (mo f r 0)))]) (st' := []) (σ' := sa σ f) fl5_ok [(81, .iload 5), (83, .goto 4), (87, .istore_n 3), (88, .iinc 4 1), (91, .goto (-84))] (by decide +kernel) rfl rfl ?_
            have hrt : rtM f pl nt r = ((1000 : Int32) * (lm f r nt)) / (mo f r 0) := by rw [rtM, if_neg zc22]
            rw [← hrt]
            have h1 : (spM f pl nt (r + 1)).1 = rtM f pl nt r := by
              show (if nI r = 0 then _ else _) = _
              rw [if_pos zc54]
            have h2 : (spM f pl nt (r + 1)).2 = rtM f pl nt r := by
              show (if nI r = 0 then _ else _) = _
              rw [if_pos zc72]
            try rw [← hrt]
            have hih := ih (r + 1) (by omega)
            rw [h1, h2] at hih
            rw [nI_1]
            exact g_sub (loc' := [some (vR (8, 0, 0)), some (vI pl), some (vI (rtM f pl nt r)), some (vI (rtM f pl nt r)), some (vI (nI (r + 1))), none]) ⟨Or.inr rfl, Or.inr rfl, Or.inr rfl, Or.inr rfl, Or.inr rfl, Or.inl rfl, trivial⟩ hih
          · refine g_blk (pc' := 78) (loc' := [some (vR (8, 0, 0)), some (vI pl), some (vI (((1000 : Int32) * (lm f r nt)) / (mo f r 0))), some (vI ((spM f pl nt r).2)), some (vI (nI r)), some (vI (((1000 : Int32) * (lm f r nt)) / (mo f r 0)))]) (st' := [vI ((spM f pl nt r).2), vI (((1000 : Int32) * (lm f r nt)) / (mo f r 0))]) (σ' := sa σ f) fl5_ok [(75, .iload 5), (77, .iload_n 3)] (by decide +kernel) rfl rfl ?_
            refine g_icmp_le (off := 8) (tgt := 86) (by decide +kernel) (by decide) (fun zc78 => ?_) (fun zc78 => ?_)
            · refine g_blk (pc' := 7) (loc' := [some (vR (8, 0, 0)), some (vI pl), some (vI (((1000 : Int32) * (lm f r nt)) / (mo f r 0))), some (vI ((spM f pl nt r).2)), some (vI ((nI r) + (1 : Int32))), some (vI (((1000 : Int32) * (lm f r nt)) / (mo f r 0)))]) (st' := []) (σ' := sa σ f) fl5_ok [(86, .iload_n 3), (87, .istore_n 3), (88, .iinc 4 1), (91, .goto (-84))] (by decide +kernel) rfl rfl ?_
              have hrt : rtM f pl nt r = ((1000 : Int32) * (lm f r nt)) / (mo f r 0) := by rw [rtM, if_neg zc22]
              rw [← hrt]
              rw [← hrt] at zc78
              have h1 : (spM f pl nt (r + 1)).1 = rtM f pl nt r := by
                show (if nI r = 0 then _ else _) = _
                rw [if_pos zc54]
              have h2 : (spM f pl nt (r + 1)).2 = (spM f pl nt r).2 := by
                show (if nI r = 0 then _ else _) = _
                rw [if_neg zc72, if_pos zc78]
              try rw [← hrt]
              have hih := ih (r + 1) (by omega)
              rw [h1, h2] at hih
              rw [nI_1]
              exact g_sub (loc' := [some (vR (8, 0, 0)), some (vI pl), some (vI (rtM f pl nt r)), some (vI ((spM f pl nt r).2)), some (vI (nI (r + 1))), none]) ⟨Or.inr rfl, Or.inr rfl, Or.inr rfl, Or.inr rfl, Or.inr rfl, Or.inl rfl, trivial⟩ hih
            · refine g_blk (pc' := 7) (loc' := [some (vR (8, 0, 0)), some (vI pl), some (vI (((1000 : Int32) * (lm f r nt)) / (mo f r 0))), some (vI (((1000 : Int32) * (lm f r nt)) / (mo f r 0))), some (vI ((nI r) + (1 : Int32))), some (vI (((1000 : Int32) * (lm f r nt)) / (mo f r 0)))]) (st' := []) (σ' := sa σ f) fl5_ok [(81, .iload 5), (83, .goto 4), (87, .istore_n 3), (88, .iinc 4 1), (91, .goto (-84))] (by decide +kernel) rfl rfl ?_
              have hrt : rtM f pl nt r = ((1000 : Int32) * (lm f r nt)) / (mo f r 0) := by rw [rtM, if_neg zc22]
              rw [← hrt]
              rw [← hrt] at zc78
              have h1 : (spM f pl nt (r + 1)).1 = rtM f pl nt r := by
                show (if nI r = 0 then _ else _) = _
                rw [if_pos zc54]
              have h2 : (spM f pl nt (r + 1)).2 = rtM f pl nt r := by
                show (if nI r = 0 then _ else _) = _
                rw [if_neg zc72, if_neg zc78]
              try rw [← hrt]
              have hih := ih (r + 1) (by omega)
              rw [h1, h2] at hih
              rw [nI_1]
              exact g_sub (loc' := [some (vR (8, 0, 0)), some (vI pl), some (vI (rtM f pl nt r)), some (vI (rtM f pl nt r)), some (vI (nI (r + 1))), none]) ⟨Or.inr rfl, Or.inr rfl, Or.inr rfl, Or.inr rfl, Or.inr rfl, Or.inl rfl, trivial⟩ hih
        · refine g_blk (pc' := 60) (loc' := [some (vR (8, 0, 0)), some (vI pl), some (vI ((spM f pl nt r).1)), some (vI ((spM f pl nt r).2)), some (vI (nI r)), some (vI (((1000 : Int32) * (lm f r nt)) / (mo f r 0)))]) (st' := [vI ((spM f pl nt r).1), vI (((1000 : Int32) * (lm f r nt)) / (mo f r 0))]) (σ' := sa σ f) fl5_ok [(57, .iload 5), (59, .iload_n 2)] (by decide +kernel) rfl rfl ?_
          refine g_icmp_ge (off := 8) (tgt := 68) (by decide +kernel) (by decide) (fun zc60 => ?_) (fun zc60 => ?_)
          · refine g_blk (pc' := 72) (loc' := [some (vR (8, 0, 0)), some (vI pl), some (vI ((spM f pl nt r).1)), some (vI ((spM f pl nt r).2)), some (vI (nI r)), some (vI (((1000 : Int32) * (lm f r nt)) / (mo f r 0)))]) (st' := [vI (nI r)]) (σ' := sa σ f) fl5_ok [(68, .iload_n 2), (69, .istore_n 2), (70, .iload 4)] (by decide +kernel) rfl rfl ?_
            refine g_if_eq (off := 9) (tgt := 81) (by decide +kernel) (by decide) (fun zc72 => ?_) (fun zc72 => ?_)
            · refine g_blk (pc' := 7) (loc' := [some (vR (8, 0, 0)), some (vI pl), some (vI ((spM f pl nt r).1)), some (vI (((1000 : Int32) * (lm f r nt)) / (mo f r 0))), some (vI ((nI r) + (1 : Int32))), some (vI (((1000 : Int32) * (lm f r nt)) / (mo f r 0)))]) (st' := []) (σ' := sa σ f) fl5_ok [(81, .iload 5), (83, .goto 4), (87, .istore_n 3), (88, .iinc 4 1), (91, .goto (-84))] (by decide +kernel) rfl rfl ?_
              have hrt : rtM f pl nt r = ((1000 : Int32) * (lm f r nt)) / (mo f r 0) := by rw [rtM, if_neg zc22]
              rw [← hrt]
              rw [← hrt] at zc60
              have h1 : (spM f pl nt (r + 1)).1 = (spM f pl nt r).1 := by
                show (if nI r = 0 then _ else _) = _
                rw [if_neg zc54, if_pos zc60]
              have h2 : (spM f pl nt (r + 1)).2 = rtM f pl nt r := by
                show (if nI r = 0 then _ else _) = _
                rw [if_pos zc72]
              try rw [← hrt]
              have hih := ih (r + 1) (by omega)
              rw [h1, h2] at hih
              rw [nI_1]
              exact g_sub (loc' := [some (vR (8, 0, 0)), some (vI pl), some (vI ((spM f pl nt r).1)), some (vI (rtM f pl nt r)), some (vI (nI (r + 1))), none]) ⟨Or.inr rfl, Or.inr rfl, Or.inr rfl, Or.inr rfl, Or.inr rfl, Or.inl rfl, trivial⟩ hih
            · refine g_blk (pc' := 78) (loc' := [some (vR (8, 0, 0)), some (vI pl), some (vI ((spM f pl nt r).1)), some (vI ((spM f pl nt r).2)), some (vI (nI r)), some (vI (((1000 : Int32) * (lm f r nt)) / (mo f r 0)))]) (st' := [vI ((spM f pl nt r).2), vI (((1000 : Int32) * (lm f r nt)) / (mo f r 0))]) (σ' := sa σ f) fl5_ok [(75, .iload 5), (77, .iload_n 3)] (by decide +kernel) rfl rfl ?_
              refine g_icmp_le (off := 8) (tgt := 86) (by decide +kernel) (by decide) (fun zc78 => ?_) (fun zc78 => ?_)
              · refine g_blk (pc' := 7) (loc' := [some (vR (8, 0, 0)), some (vI pl), some (vI ((spM f pl nt r).1)), some (vI ((spM f pl nt r).2)), some (vI ((nI r) + (1 : Int32))), some (vI (((1000 : Int32) * (lm f r nt)) / (mo f r 0)))]) (st' := []) (σ' := sa σ f) fl5_ok [(86, .iload_n 3), (87, .istore_n 3), (88, .iinc 4 1), (91, .goto (-84))] (by decide +kernel) rfl rfl ?_
                have hrt : rtM f pl nt r = ((1000 : Int32) * (lm f r nt)) / (mo f r 0) := by rw [rtM, if_neg zc22]
                rw [← hrt]
                rw [← hrt] at zc60
                rw [← hrt] at zc78
                have h1 : (spM f pl nt (r + 1)).1 = (spM f pl nt r).1 := by
                  show (if nI r = 0 then _ else _) = _
                  rw [if_neg zc54, if_pos zc60]
                have h2 : (spM f pl nt (r + 1)).2 = (spM f pl nt r).2 := by
                  show (if nI r = 0 then _ else _) = _
                  rw [if_neg zc72, if_pos zc78]
                try rw [← hrt]
                have hih := ih (r + 1) (by omega)
                rw [h1, h2] at hih
                rw [nI_1]
                exact g_sub (loc' := [some (vR (8, 0, 0)), some (vI pl), some (vI ((spM f pl nt r).1)), some (vI ((spM f pl nt r).2)), some (vI (nI (r + 1))), none]) ⟨Or.inr rfl, Or.inr rfl, Or.inr rfl, Or.inr rfl, Or.inr rfl, Or.inl rfl, trivial⟩ hih
              · refine g_blk (pc' := 7) (loc' := [some (vR (8, 0, 0)), some (vI pl), some (vI ((spM f pl nt r).1)), some (vI (((1000 : Int32) * (lm f r nt)) / (mo f r 0))), some (vI ((nI r) + (1 : Int32))), some (vI (((1000 : Int32) * (lm f r nt)) / (mo f r 0)))]) (st' := []) (σ' := sa σ f) fl5_ok [(81, .iload 5), (83, .goto 4), (87, .istore_n 3), (88, .iinc 4 1), (91, .goto (-84))] (by decide +kernel) rfl rfl ?_
                have hrt : rtM f pl nt r = ((1000 : Int32) * (lm f r nt)) / (mo f r 0) := by rw [rtM, if_neg zc22]
                rw [← hrt]
                rw [← hrt] at zc60
                rw [← hrt] at zc78
                have h1 : (spM f pl nt (r + 1)).1 = (spM f pl nt r).1 := by
                  show (if nI r = 0 then _ else _) = _
                  rw [if_neg zc54, if_pos zc60]
                have h2 : (spM f pl nt (r + 1)).2 = rtM f pl nt r := by
                  show (if nI r = 0 then _ else _) = _
                  rw [if_neg zc72, if_neg zc78]
                try rw [← hrt]
                have hih := ih (r + 1) (by omega)
                rw [h1, h2] at hih
                rw [nI_1]
                exact g_sub (loc' := [some (vR (8, 0, 0)), some (vI pl), some (vI ((spM f pl nt r).1)), some (vI (rtM f pl nt r)), some (vI (nI (r + 1))), none]) ⟨Or.inr rfl, Or.inr rfl, Or.inr rfl, Or.inr rfl, Or.inr rfl, Or.inl rfl, trivial⟩ hih
          · refine g_blk (pc' := 72) (loc' := [some (vR (8, 0, 0)), some (vI pl), some (vI (((1000 : Int32) * (lm f r nt)) / (mo f r 0))), some (vI ((spM f pl nt r).2)), some (vI (nI r)), some (vI (((1000 : Int32) * (lm f r nt)) / (mo f r 0)))]) (st' := [vI (nI r)]) (σ' := sa σ f) fl5_ok [(63, .iload 5), (65, .goto 4), (69, .istore_n 2), (70, .iload 4)] (by decide +kernel) rfl rfl ?_
            refine g_if_eq (off := 9) (tgt := 81) (by decide +kernel) (by decide) (fun zc72 => ?_) (fun zc72 => ?_)
            · refine g_blk (pc' := 7) (loc' := [some (vR (8, 0, 0)), some (vI pl), some (vI (((1000 : Int32) * (lm f r nt)) / (mo f r 0))), some (vI (((1000 : Int32) * (lm f r nt)) / (mo f r 0))), some (vI ((nI r) + (1 : Int32))), some (vI (((1000 : Int32) * (lm f r nt)) / (mo f r 0)))]) (st' := []) (σ' := sa σ f) fl5_ok [(81, .iload 5), (83, .goto 4), (87, .istore_n 3), (88, .iinc 4 1), (91, .goto (-84))] (by decide +kernel) rfl rfl ?_
              have hrt : rtM f pl nt r = ((1000 : Int32) * (lm f r nt)) / (mo f r 0) := by rw [rtM, if_neg zc22]
              rw [← hrt]
              rw [← hrt] at zc60
              have h1 : (spM f pl nt (r + 1)).1 = rtM f pl nt r := by
                show (if nI r = 0 then _ else _) = _
                rw [if_neg zc54, if_neg zc60]
              have h2 : (spM f pl nt (r + 1)).2 = rtM f pl nt r := by
                show (if nI r = 0 then _ else _) = _
                rw [if_pos zc72]
              try rw [← hrt]
              have hih := ih (r + 1) (by omega)
              rw [h1, h2] at hih
              rw [nI_1]
              exact g_sub (loc' := [some (vR (8, 0, 0)), some (vI pl), some (vI (rtM f pl nt r)), some (vI (rtM f pl nt r)), some (vI (nI (r + 1))), none]) ⟨Or.inr rfl, Or.inr rfl, Or.inr rfl, Or.inr rfl, Or.inr rfl, Or.inl rfl, trivial⟩ hih
            · refine g_blk (pc' := 78) (loc' := [some (vR (8, 0, 0)), some (vI pl), some (vI (((1000 : Int32) * (lm f r nt)) / (mo f r 0))), some (vI ((spM f pl nt r).2)), some (vI (nI r)), some (vI (((1000 : Int32) * (lm f r nt)) / (mo f r 0)))]) (st' := [vI ((spM f pl nt r).2), vI (((1000 : Int32) * (lm f r nt)) / (mo f r 0))]) (σ' := sa σ f) fl5_ok [(75, .iload 5), (77, .iload_n 3)] (by decide +kernel) rfl rfl ?_
              refine g_icmp_le (off := 8) (tgt := 86) (by decide +kernel) (by decide) (fun zc78 => ?_) (fun zc78 => ?_)
              · refine g_blk (pc' := 7) (loc' := [some (vR (8, 0, 0)), some (vI pl), some (vI (((1000 : Int32) * (lm f r nt)) / (mo f r 0))), some (vI ((spM f pl nt r).2)), some (vI ((nI r) + (1 : Int32))), some (vI (((1000 : Int32) * (lm f r nt)) / (mo f r 0)))]) (st' := []) (σ' := sa σ f) fl5_ok [(86, .iload_n 3), (87, .istore_n 3), (88, .iinc 4 1), (91, .goto (-84))] (by decide +kernel) rfl rfl ?_
                have hrt : rtM f pl nt r = ((1000 : Int32) * (lm f r nt)) / (mo f r 0) := by rw [rtM, if_neg zc22]
                rw [← hrt]
                rw [← hrt] at zc60
                rw [← hrt] at zc78
                have h1 : (spM f pl nt (r + 1)).1 = rtM f pl nt r := by
                  show (if nI r = 0 then _ else _) = _
                  rw [if_neg zc54, if_neg zc60]
                have h2 : (spM f pl nt (r + 1)).2 = (spM f pl nt r).2 := by
                  show (if nI r = 0 then _ else _) = _
                  rw [if_neg zc72, if_pos zc78]
                try rw [← hrt]
                have hih := ih (r + 1) (by omega)
                rw [h1, h2] at hih
                rw [nI_1]
                exact g_sub (loc' := [some (vR (8, 0, 0)), some (vI pl), some (vI (rtM f pl nt r)), some (vI ((spM f pl nt r).2)), some (vI (nI (r + 1))), none]) ⟨Or.inr rfl, Or.inr rfl, Or.inr rfl, Or.inr rfl, Or.inr rfl, Or.inl rfl, trivial⟩ hih
              · refine g_blk (pc' := 7) (loc' := [some (vR (8, 0, 0)), some (vI pl), some (vI (((1000 : Int32) * (lm f r nt)) / (mo f r 0))), some (vI (((1000 : Int32) * (lm f r nt)) / (mo f r 0))), some (vI ((nI r) + (1 : Int32))), some (vI (((1000 : Int32) * (lm f r nt)) / (mo f r 0)))]) (st' := []) (σ' := sa σ f) fl5_ok [(81, .iload 5), (83, .goto 4), (87, .istore_n 3), (88, .iinc 4 1), (91, .goto (-84))] (by decide +kernel) rfl rfl ?_
                have hrt : rtM f pl nt r = ((1000 : Int32) * (lm f r nt)) / (mo f r 0) := by rw [rtM, if_neg zc22]
                rw [← hrt]
                rw [← hrt] at zc60
                rw [← hrt] at zc78
                have h1 : (spM f pl nt (r + 1)).1 = rtM f pl nt r := by
                  show (if nI r = 0 then _ else _) = _
                  rw [if_neg zc54, if_neg zc60]
                have h2 : (spM f pl nt (r + 1)).2 = rtM f pl nt r := by
                  show (if nI r = 0 then _ else _) = _
                  rw [if_neg zc72, if_neg zc78]
                try rw [← hrt]
                have hih := ih (r + 1) (by omega)
                rw [h1, h2] at hih
                rw [nI_1]
                exact g_sub (loc' := [some (vR (8, 0, 0)), some (vI pl), some (vI (rtM f pl nt r)), some (vI (rtM f pl nt r)), some (vI (nI (r + 1))), none]) ⟨Or.inr rfl, Or.inr rfl, Or.inr rfl, Or.inr rfl, Or.inr rfl, Or.inl rfl, trivial⟩ hih
set_option maxHeartbeats 2000000 in
theorem c_X5_spread (l : Launch) {σ : Sg} {f : Nat → Int32} {nr nt : Nat} (pl : Int32) (hnr : f 1 = nI nr) (h8 : nr ≤ 8) (hnt : f 3 = nI nt) (h12 : nt ≤ 12) (hw : ∀ r, r < nr → ¬ mo f r 0 = 0) : Con l 2 yX5_spread cX5_spread 6 (some .int) [vR (8, 0, 0), vI pl] (sa σ f) (pureP (sprM f pl nt nr) (sa σ f)) := by
  refine con_of pn_X5_spread (Nat.le_of_ble_eq_true rfl) (fun hPK hok => ?_)
  show G l (Rm 2) RX5 cX5_spread 6 (some .int) _ 0 [some (vR (8, 0, 0)), some (vI pl), none, none, none, none] [] (sa σ f)
  refine g_blk (pc' := 7) (loc' := [some (vR (8, 0, 0)), some (vI pl), some (vI (0 : Int32)), some (vI (0 : Int32)), some (vI (0 : Int32)), none]) (st' := []) (σ' := sa σ f) fl5_ok [(0, .iconst 0), (1, .istore_n 2), (2, .iconst 0), (3, .istore_n 3), (4, .iconst 0), (5, .istore 4)] (by decide +kernel) rfl rfl ?_
  exact lp_X5_spread l hnr h8 hnt h12 hw nr 0 (by omega)
