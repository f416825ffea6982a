/-! HISTORY: contracts (laid by wip/p26/mk13.py) -/
theorem g_callVq {l : Launch} {R : Room} {own : String} {cc : ByteArray} {nL : Nat} {ret : Option FieldType} {post : Option AV → Sg → Prop} {pc : Nat} {loc : List (Option AV)} {st : List AV} {σ : Sg} {k idx maxL n : Nat} {y : MethodName} {bytes : ByteArray} {rt : Option FieldType} {q : Lo} (b : Lo) (As : List AV) (rest : List AV) {x : Nat × List FS} {r : vw_C}
    (hl : VLink own idx y) (hm : MI y bytes maxL rt n) (hC : Con l k y bytes maxL rt (vR b :: As) σ (fun o σ' => o = some (vR q) ∧ σ' = σ)) (hsh : shp b = .inl x) (hc : vwCl[x.1]? = some r) (hcl : r.1 = y.cls) (hn : As.length = n) (hR : k + 1 ≤ R.frames ∧ 8 + (maxL + 11) + 32 * k ≤ R.locals)
    (hs : st = As.reverse ++ vR b :: rest) (hcat : (rest.map aCat).sum ≤ 8) (hd : decode cc pc = .ok (.invokevirtual idx, 3))
    (kk : G l R own cc nL ret post (pc + 3) loc (vR q :: rest) σ) : G l R own cc nL ret post pc loc st σ :=
  g_callV b As rest hl hm hC hsh hc hcl hn hR hs hcat hd (fun o σ' hP => by obtain ⟨rfl, h⟩ := hP; rw [h]; exact kk)
set_option maxHeartbeats 2000000 in
theorem c_X0_stateAt (l : Launch) {σ : Sg} {i : Nat} (hi : i < 6) : Con l 0 yX0_stateAt cX0_stateAt 2 (some (.object "CleaningRota$House")) [vR (3, 0, 0), vI (nI i)] σ (fun o σ' => o = some (vR (2, 0, σ.2 i)) ∧ σ' = σ) := by
  refine con_of pn_X0_stateAt (Nat.le_of_ble_eq_true rfl) (fun hPK hok => ?_)
  show G l (Rm 0) RX0 cX0_stateAt 2 (some (.object "CleaningRota$House")) _ 0 [some (vR (3, 0, 0)), some (vI (nI i))] [] σ
  refine g_blk (pc' := 1) (loc' := [some (vR (3, 0, 0)), some (vI (nI i))]) (st' := [vI (nI i)]) (σ' := σ) fl0_ok [(0, .iload_n 1)] (by decide +kernel) rfl rfl ?_
  refine g_if_lt (off := 21) (tgt := 22) (by decide +kernel) (by decide) (fun zc1 => ?_) (fun zc1 => ?_)
  · exact absurd zc1 (nI_pos (by omega))
  · refine g_blk (pc' := 9) (loc' := [some (vR (3, 0, 0)), some (vI (nI i))]) (st' := [vR (4, 0, 0), vI (nI i)]) (σ' := σ) fl0_ok [(4, .iload_n 1), (5, .aload_n 0), (6, .getfield 11)] (by decide +kernel) rfl rfl ?_
    refine g_alen (x := (2, 6)) rfl (Nat.le_of_ble_eq_true rfl) (by decide +kernel) ?_
    refine g_icmp_ge (off := 12) (tgt := 22) (by decide +kernel) (by decide) (fun zc10 => ?_) (fun zc10 => ?_)
    · exact absurd zc10 (nI_ge hi (by decide))
    · refine g_blk (pc' := 18) (loc' := [some (vR (3, 0, 0)), some (vI (nI i))]) (st' := [vI (nI i), vR (4, 0, 0)]) (σ' := σ) fl0_ok [(13, .aload_n 0), (14, .getfield 11), (17, .iload_n 1)] (by decide +kernel) rfl rfl ?_
      refine g_aald (n := 6) rfl (vp_in_nI hi (by decide)) (by decide +kernel) ?_
      rw [nI_clamp (by omega)]
      refine g_blk (pc' := 23) (loc' := [some (vR (3, 0, 0)), some (vI (nI i))]) (st' := [vR (2, 0, (σ.2 i))]) (σ' := σ) fl0_ok [(19, .goto 4)] (by decide +kernel) rfl rfl ?_
      exact g_aretR (by decide +kernel) ⟨rfl, rfl⟩
set_option maxHeartbeats 2000000 in
theorem c_X0_dropOldest (l : Launch) {σ : Sg}  (hk : σ.1 (3, 0, 0) 1 = nI 6) : Con l 0 yX0_dropOldest cX0_dropOldest 3 none [vR (3, 0, 0)] σ (fun o σ' => o = none ∧ σ'.1 = upd2 σ.1 (3, 0, 0) 1 (nI 5) ∧ (∀ i, i < 5 → σ'.2 i = σ.2 (i + 1)) ∧ σ'.2 5 = σ.2 0) := by
  refine con_of pn_X0_dropOldest (Nat.le_of_ble_eq_true rfl) (fun hPK hok => ?_)
  show G l (Rm 0) RX0 cX0_dropOldest 3 none _ 0 [some (vR (3, 0, 0)), none, none] [] σ
  refine g_blk (pc' := 7) (loc' := [some (vR (3, 0, 0)), some (vI (1 : Int32)), none]) (st' := [vR (4, 0, 0), vI (1 : Int32)]) (σ' := σ) fl0_ok [(0, .iconst 1), (1, .istore_n 1), (2, .iload_n 1), (3, .aload_n 0), (4, .getfield 11)] (by decide +kernel) rfl rfl ?_
  refine g_alen (x := (2, 6)) rfl (Nat.le_of_ble_eq_true rfl) (by decide +kernel) ?_
  refine g_icmp_ge (off := 39) (tgt := 47) (by decide +kernel) (by decide) (fun zc8 => ?_) (fun zc8 => ?_)
  · exact absurd zc8 (by decide)
  · refine g_blk (pc' := 16) (loc' := [some (vR (3, 0, 0)), some (vI (1 : Int32)), none]) (st' := [vI (1 : Int32), vR (4, 0, 0)]) (σ' := σ) fl0_ok [(11, .aload_n 0), (12, .getfield 11), (15, .iload_n 1)] (by decide +kernel) rfl rfl ?_
    refine g_aald (n := 6) rfl (ibt_ok (by decide +kernel)) (by decide +kernel) ?_
    refine g_blk (pc' := 30) (loc' := [some (vR (3, 0, 0)), some (vI (1 : Int32)), some (vR (2, 0, (σ.2 1)))]) (st' := [vI (0 : Int32), vR (4, 0, 0), vI (1 : Int32), vR (4, 0, 0)]) (σ' := σ) fl0_ok [(17, .astore_n 2), (18, .aload_n 0), (19, .getfield 11), (22, .iload_n 1), (23, .aload_n 0), (24, .getfield 11), (27, .iload_n 1), (28, .iconst 1), (29, .isub)] (by decide +kernel) rfl rfl ?_
    refine g_aald (n := 6) rfl (ibt_ok (by decide +kernel)) (by decide +kernel) ?_
    refine g_aast (n := 6) (h := (σ.2 0)) (hPK _) rfl shp_only (ibt_ok (by decide +kernel)) (by decide +kernel) ?_
    refine g_blk (pc' := 40) (loc' := [some (vR (3, 0, 0)), some (vI (1 : Int32)), some (vR (2, 0, (σ.2 1)))]) (st' := [vR (2, 0, (σ.2 1)), vI (0 : Int32), vR (4, 0, 0)]) (σ' := (σ.1, (va_up σ.2 1 (σ.2 0)))) fl0_ok [(32, .aload_n 0), (33, .getfield 11), (36, .iload_n 1), (37, .iconst 1), (38, .isub), (39, .aload_n 2)] (by decide +kernel) rfl rfl ?_
    refine g_aast (n := 6) (h := (σ.2 1)) (hPK _) rfl shp_only (ibt_ok (by decide +kernel)) (by decide +kernel) ?_
    refine g_blk (pc' := 7) (loc' := [some (vR (3, 0, 0)), some (vI (2 : Int32)), some (vR (2, 0, (σ.2 1)))]) (st' := [vR (4, 0, 0), vI (2 : Int32)]) (σ' := (σ.1, (va_up (va_up σ.2 1 (σ.2 0)) 0 (σ.2 1)))) fl0_ok [(41, .iinc 1 1), (44, .goto (-42)), (2, .iload_n 1), (3, .aload_n 0), (4, .getfield 11)] (by decide +kernel) rfl rfl ?_
    refine g_alen (x := (2, 6)) rfl (Nat.le_of_ble_eq_true rfl) (by decide +kernel) ?_
    refine g_icmp_ge (off := 39) (tgt := 47) (by decide +kernel) (by decide) (fun zc8 => ?_) (fun zc8 => ?_)
    · exact absurd zc8 (by decide)
    · refine g_blk (pc' := 16) (loc' := [some (vR (3, 0, 0)), some (vI (2 : Int32)), some (vR (2, 0, (σ.2 1)))]) (st' := [vI (2 : Int32), vR (4, 0, 0)]) (σ' := (σ.1, (va_up (va_up σ.2 1 (σ.2 0)) 0 (σ.2 1)))) fl0_ok [(11, .aload_n 0), (12, .getfield 11), (15, .iload_n 1)] (by decide +kernel) rfl rfl ?_
      refine g_aald (n := 6) rfl (ibt_ok (by decide +kernel)) (by decide +kernel) ?_
      refine g_blk (pc' := 30) (loc' := [some (vR (3, 0, 0)), some (vI (2 : Int32)), some (vR (2, 0, (σ.2 2)))]) (st' := [vI (1 : Int32), vR (4, 0, 0), vI (2 : Int32), vR (4, 0, 0)]) (σ' := (σ.1, (va_up (va_up σ.2 1 (σ.2 0)) 0 (σ.2 1)))) fl0_ok [(17, .astore_n 2), (18, .aload_n 0), (19, .getfield 11), (22, .iload_n 1), (23, .aload_n 0), (24, .getfield 11), (27, .iload_n 1), (28, .iconst 1), (29, .isub)] (by decide +kernel) rfl rfl ?_
      refine g_aald (n := 6) rfl (ibt_ok (by decide +kernel)) (by decide +kernel) ?_
      refine g_aast (n := 6) (h := (σ.2 0)) (hPK _) rfl shp_only (ibt_ok (by decide +kernel)) (by decide +kernel) ?_
      refine g_blk (pc' := 40) (loc' := [some (vR (3, 0, 0)), some (vI (2 : Int32)), some (vR (2, 0, (σ.2 2)))]) (st' := [vR (2, 0, (σ.2 2)), vI (1 : Int32), vR (4, 0, 0)]) (σ' := (σ.1, (va_up (va_up (va_up σ.2 1 (σ.2 0)) 0 (σ.2 1)) 2 (σ.2 0)))) fl0_ok [(32, .aload_n 0), (33, .getfield 11), (36, .iload_n 1), (37, .iconst 1), (38, .isub), (39, .aload_n 2)] (by decide +kernel) rfl rfl ?_
      refine g_aast (n := 6) (h := (σ.2 2)) (hPK _) rfl shp_only (ibt_ok (by decide +kernel)) (by decide +kernel) ?_
      refine g_blk (pc' := 7) (loc' := [some (vR (3, 0, 0)), some (vI (3 : Int32)), some (vR (2, 0, (σ.2 2)))]) (st' := [vR (4, 0, 0), vI (3 : Int32)]) (σ' := (σ.1, (va_up (va_up (va_up (va_up σ.2 1 (σ.2 0)) 0 (σ.2 1)) 2 (σ.2 0)) 1 (σ.2 2)))) fl0_ok [(41, .iinc 1 1), (44, .goto (-42)), (2, .iload_n 1), (3, .aload_n 0), (4, .getfield 11)] (by decide +kernel) rfl rfl ?_
      refine g_alen (x := (2, 6)) rfl (Nat.le_of_ble_eq_true rfl) (by decide +kernel) ?_
      refine g_icmp_ge (off := 39) (tgt := 47) (by decide +kernel) (by decide) (fun zc8 => ?_) (fun zc8 => ?_)
      · exact absurd zc8 (by decide)
      · refine g_blk (pc' := 16) (loc' := [some (vR (3, 0, 0)), some (vI (3 : Int32)), some (vR (2, 0, (σ.2 2)))]) (st' := [vI (3 : Int32), vR (4, 0, 0)]) (σ' := (σ.1, (va_up (va_up (va_up (va_up σ.2 1 (σ.2 0)) 0 (σ.2 1)) 2 (σ.2 0)) 1 (σ.2 2)))) fl0_ok [(11, .aload_n 0), (12, .getfield 11), (15, .iload_n 1)] (by decide +kernel) rfl rfl ?_
        refine g_aald (n := 6) rfl (ibt_ok (by decide +kernel)) (by decide +kernel) ?_
        refine g_blk (pc' := 30) (loc' := [some (vR (3, 0, 0)), some (vI (3 : Int32)), some (vR (2, 0, (σ.2 3)))]) (st' := [vI (2 : Int32), vR (4, 0, 0), vI (3 : Int32), vR (4, 0, 0)]) (σ' := (σ.1, (va_up (va_up (va_up (va_up σ.2 1 (σ.2 0)) 0 (σ.2 1)) 2 (σ.2 0)) 1 (σ.2 2)))) fl0_ok [(17, .astore_n 2), (18, .aload_n 0), (19, .getfield 11), (22, .iload_n 1), (23, .aload_n 0), (24, .getfield 11), (27, .iload_n 1), (28, .iconst 1), (29, .isub)] (by decide +kernel) rfl rfl ?_
        refine g_aald (n := 6) rfl (ibt_ok (by decide +kernel)) (by decide +kernel) ?_
        refine g_aast (n := 6) (h := (σ.2 0)) (hPK _) rfl shp_only (ibt_ok (by decide +kernel)) (by decide +kernel) ?_
        refine g_blk (pc' := 40) (loc' := [some (vR (3, 0, 0)), some (vI (3 : Int32)), some (vR (2, 0, (σ.2 3)))]) (st' := [vR (2, 0, (σ.2 3)), vI (2 : Int32), vR (4, 0, 0)]) (σ' := (σ.1, (va_up (va_up (va_up (va_up (va_up σ.2 1 (σ.2 0)) 0 (σ.2 1)) 2 (σ.2 0)) 1 (σ.2 2)) 3 (σ.2 0)))) fl0_ok [(32, .aload_n 0), (33, .getfield 11), (36, .iload_n 1), (37, .iconst 1), (38, .isub), (39, .aload_n 2)] (by decide +kernel) rfl rfl ?_
        refine g_aast (n := 6) (h := (σ.2 3)) (hPK _) rfl shp_only (ibt_ok (by decide +kernel)) (by decide +kernel) ?_
        refine g_blk (pc' := 7) (loc' := [some (vR (3, 0, 0)), some (vI (4 : Int32)), some (vR (2, 0, (σ.2 3)))]) (st' := [vR (4, 0, 0), vI (4 : Int32)]) (σ' := (σ.1, (va_up (va_up (va_up (va_up (va_up (va_up σ.2 1 (σ.2 0)) 0 (σ.2 1)) 2 (σ.2 0)) 1 (σ.2 2)) 3 (σ.2 0)) 2 (σ.2 3)))) fl0_ok [(41, .iinc 1 1), (44, .goto (-42)), (2, .iload_n 1), (3, .aload_n 0), (4, .getfield 11)] (by decide +kernel) rfl rfl ?_
        refine g_alen (x := (2, 6)) rfl (Nat.le_of_ble_eq_true rfl) (by decide +kernel) ?_
        refine g_icmp_ge (off := 39) (tgt := 47) (by decide +kernel) (by decide) (fun zc8 => ?_) (fun zc8 => ?_)
        · exact absurd zc8 (by decide)
        · refine g_blk (pc' := 16) (loc' := [some (vR (3, 0, 0)), some (vI (4 : Int32)), some (vR (2, 0, (σ.2 3)))]) (st' := [vI (4 : Int32), vR (4, 0, 0)]) (σ' := (σ.1, (va_up (va_up (va_up (va_up (va_up (va_up σ.2 1 (σ.2 0)) 0 (σ.2 1)) 2 (σ.2 0)) 1 (σ.2 2)) 3 (σ.2 0)) 2 (σ.2 3)))) fl0_ok [(11, .aload_n 0), (12, .getfield 11), (15, .iload_n 1)] (by decide +kernel) rfl rfl ?_
          refine g_aald (n := 6) rfl (ibt_ok (by decide +kernel)) (by decide +kernel) ?_
          refine g_blk (pc' := 30) (loc' := [some (vR (3, 0, 0)), some (vI (4 : Int32)), some (vR (2, 0, (σ.2 4)))]) (st' := [vI (3 : Int32), vR (4, 0, 0), vI (4 : Int32), vR (4, 0, 0)]) (σ' := (σ.1, (va_up (va_up (va_up (va_up (va_up (va_up σ.2 1 (σ.2 0)) 0 (σ.2 1)) 2 (σ.2 0)) 1 (σ.2 2)) 3 (σ.2 0)) 2 (σ.2 3)))) fl0_ok [(17, .astore_n 2), (18, .aload_n 0), (19, .getfield 11), (22, .iload_n 1), (23, .aload_n 0), (24, .getfield 11), (27, .iload_n 1), (28, .iconst 1), (29, .isub)] (by decide +kernel) rfl rfl ?_
          refine g_aald (n := 6) rfl (ibt_ok (by decide +kernel)) (by decide +kernel) ?_
          refine g_aast (n := 6) (h := (σ.2 0)) (hPK _) rfl shp_only (ibt_ok (by decide +kernel)) (by decide +kernel) ?_
          refine g_blk (pc' := 40) (loc' := [some (vR (3, 0, 0)), some (vI (4 : Int32)), some (vR (2, 0, (σ.2 4)))]) (st' := [vR (2, 0, (σ.2 4)), vI (3 : Int32), vR (4, 0, 0)]) (σ' := (σ.1, (va_up (va_up (va_up (va_up (va_up (va_up (va_up σ.2 1 (σ.2 0)) 0 (σ.2 1)) 2 (σ.2 0)) 1 (σ.2 2)) 3 (σ.2 0)) 2 (σ.2 3)) 4 (σ.2 0)))) fl0_ok [(32, .aload_n 0), (33, .getfield 11), (36, .iload_n 1), (37, .iconst 1), (38, .isub), (39, .aload_n 2)] (by decide +kernel) rfl rfl ?_
          refine g_aast (n := 6) (h := (σ.2 4)) (hPK _) rfl shp_only (ibt_ok (by decide +kernel)) (by decide +kernel) ?_
          refine g_blk (pc' := 7) (loc' := [some (vR (3, 0, 0)), some (vI (5 : Int32)), some (vR (2, 0, (σ.2 4)))]) (st' := [vR (4, 0, 0), vI (5 : Int32)]) (σ' := (σ.1, (va_up (va_up (va_up (va_up (va_up (va_up (va_up (va_up σ.2 1 (σ.2 0)) 0 (σ.2 1)) 2 (σ.2 0)) 1 (σ.2 2)) 3 (σ.2 0)) 2 (σ.2 3)) 4 (σ.2 0)) 3 (σ.2 4)))) fl0_ok [(41, .iinc 1 1), (44, .goto (-42)), (2, .iload_n 1), (3, .aload_n 0), (4, .getfield 11)] (by decide +kernel) rfl rfl ?_
          refine g_alen (x := (2, 6)) rfl (Nat.le_of_ble_eq_true rfl) (by decide +kernel) ?_
          refine g_icmp_ge (off := 39) (tgt := 47) (by decide +kernel) (by decide) (fun zc8 => ?_) (fun zc8 => ?_)
          · exact absurd zc8 (by decide)
          · refine g_blk (pc' := 16) (loc' := [some (vR (3, 0, 0)), some (vI (5 : Int32)), some (vR (2, 0, (σ.2 4)))]) (st' := [vI (5 : Int32), vR (4, 0, 0)]) (σ' := (σ.1, (va_up (va_up (va_up (va_up (va_up (va_up (va_up (va_up σ.2 1 (σ.2 0)) 0 (σ.2 1)) 2 (σ.2 0)) 1 (σ.2 2)) 3 (σ.2 0)) 2 (σ.2 3)) 4 (σ.2 0)) 3 (σ.2 4)))) fl0_ok [(11, .aload_n 0), (12, .getfield 11), (15, .iload_n 1)] (by decide +kernel) rfl rfl ?_
            refine g_aald (n := 6) rfl (ibt_ok (by decide +kernel)) (by decide +kernel) ?_
            refine g_blk (pc' := 30) (loc' := [some (vR (3, 0, 0)), some (vI (5 : Int32)), some (vR (2, 0, (σ.2 5)))]) (st' := [vI (4 : Int32), vR (4, 0, 0), vI (5 : Int32), vR (4, 0, 0)]) (σ' := (σ.1, (va_up (va_up (va_up (va_up (va_up (va_up (va_up (va_up σ.2 1 (σ.2 0)) 0 (σ.2 1)) 2 (σ.2 0)) 1 (σ.2 2)) 3 (σ.2 0)) 2 (σ.2 3)) 4 (σ.2 0)) 3 (σ.2 4)))) fl0_ok [(17, .astore_n 2), (18, .aload_n 0), (19, .getfield 11), (22, .iload_n 1), (23, .aload_n 0), (24, .getfield 11), (27, .iload_n 1), (28, .iconst 1), (29, .isub)] (by decide +kernel) rfl rfl ?_
            refine g_aald (n := 6) rfl (ibt_ok (by decide +kernel)) (by decide +kernel) ?_
            refine g_aast (n := 6) (h := (σ.2 0)) (hPK _) rfl shp_only (ibt_ok (by decide +kernel)) (by decide +kernel) ?_
            refine g_blk (pc' := 40) (loc' := [some (vR (3, 0, 0)), some (vI (5 : Int32)), some (vR (2, 0, (σ.2 5)))]) (st' := [vR (2, 0, (σ.2 5)), vI (4 : Int32), vR (4, 0, 0)]) (σ' := (σ.1, (va_up (va_up (va_up (va_up (va_up (va_up (va_up (va_up (va_up σ.2 1 (σ.2 0)) 0 (σ.2 1)) 2 (σ.2 0)) 1 (σ.2 2)) 3 (σ.2 0)) 2 (σ.2 3)) 4 (σ.2 0)) 3 (σ.2 4)) 5 (σ.2 0)))) fl0_ok [(32, .aload_n 0), (33, .getfield 11), (36, .iload_n 1), (37, .iconst 1), (38, .isub), (39, .aload_n 2)] (by decide +kernel) rfl rfl ?_
            refine g_aast (n := 6) (h := (σ.2 5)) (hPK _) rfl shp_only (ibt_ok (by decide +kernel)) (by decide +kernel) ?_
            refine g_blk (pc' := 7) (loc' := [some (vR (3, 0, 0)), some (vI (6 : Int32)), some (vR (2, 0, (σ.2 5)))]) (st' := [vR (4, 0, 0), vI (6 : Int32)]) (σ' := (σ.1, (va_up (va_up (va_up (va_up (va_up (va_up (va_up (va_up (va_up (va_up σ.2 1 (σ.2 0)) 0 (σ.2 1)) 2 (σ.2 0)) 1 (σ.2 2)) 3 (σ.2 0)) 2 (σ.2 3)) 4 (σ.2 0)) 3 (σ.2 4)) 5 (σ.2 0)) 4 (σ.2 5)))) fl0_ok [(41, .iinc 1 1), (44, .goto (-42)), (2, .iload_n 1), (3, .aload_n 0), (4, .getfield 11)] (by decide +kernel) rfl rfl ?_
            refine g_alen (x := (2, 6)) rfl (Nat.le_of_ble_eq_true rfl) (by decide +kernel) ?_
            refine g_icmp_ge (off := 39) (tgt := 47) (by decide +kernel) (by decide) (fun zc8 => ?_) (fun zc8 => ?_)
            · refine g_blk (pc' := 57) (loc' := [some (vR (3, 0, 0)), some (vI (6 : Int32)), some (vR (2, 0, (σ.2 5)))]) (st' := []) (σ' := (upd2 (σ.1, (va_up (va_up (va_up (va_up (va_up (va_up (va_up (va_up (va_up (va_up σ.2 1 (σ.2 0)) 0 (σ.2 1)) 2 (σ.2 0)) 1 (σ.2 2)) 3 (σ.2 0)) 2 (σ.2 3)) 4 (σ.2 0)) 3 (σ.2 4)) 5 (σ.2 0)) 4 (σ.2 5))).1 (3, 0, 0) 1 (((σ.1, (va_up (va_up (va_up (va_up (va_up (va_up (va_up (va_up (va_up (va_up σ.2 1 (σ.2 0)) 0 (σ.2 1)) 2 (σ.2 0)) 1 (σ.2 2)) 3 (σ.2 0)) 2 (σ.2 3)) 4 (σ.2 0)) 3 (σ.2 4)) 5 (σ.2 0)) 4 (σ.2 5))).1 (3, 0, 0) 1) - (1 : Int32)), (σ.1, (va_up (va_up (va_up (va_up (va_up (va_up (va_up (va_up (va_up (va_up σ.2 1 (σ.2 0)) 0 (σ.2 1)) 2 (σ.2 0)) 1 (σ.2 2)) 3 (σ.2 0)) 2 (σ.2 3)) 4 (σ.2 0)) 3 (σ.2 4)) 5 (σ.2 0)) 4 (σ.2 5))).2)) fl0_ok [(47, .aload_n 0), (48, .dup), (49, .getfield 16), (52, .iconst 1), (53, .isub), (54, .putfield 16)] (by decide +kernel) rfl rfl ?_
              generalize hσ1 : ((upd2 (σ.1, (va_up (va_up (va_up (va_up (va_up (va_up (va_up (va_up (va_up (va_up σ.2 1 (σ.2 0)) 0 (σ.2 1)) 2 (σ.2 0)) 1 (σ.2 2)) 3 (σ.2 0)) 2 (σ.2 3)) 4 (σ.2 0)) 3 (σ.2 4)) 5 (σ.2 0)) 4 (σ.2 5))).1 (3, 0, 0) 1 (((σ.1, (va_up (va_up (va_up (va_up (va_up (va_up (va_up (va_up (va_up (va_up σ.2 1 (σ.2 0)) 0 (σ.2 1)) 2 (σ.2 0)) 1 (σ.2 2)) 3 (σ.2 0)) 2 (σ.2 3)) 4 (σ.2 0)) 3 (σ.2 4)) 5 (σ.2 0)) 4 (σ.2 5))).1 (3, 0, 0) 1) - (1 : Int32)), (σ.1, (va_up (va_up (va_up (va_up (va_up (va_up (va_up (va_up (va_up (va_up σ.2 1 (σ.2 0)) 0 (σ.2 1)) 2 (σ.2 0)) 1 (σ.2 2)) 3 (σ.2 0)) 2 (σ.2 3)) 4 (σ.2 0)) 3 (σ.2 4)) 5 (σ.2 0)) 4 (σ.2 5))).2) : Sg) = σ1
              refine g_vret (by decide +kernel) ⟨rfl, ?_, ?_, ?_⟩
              · rw [← hσ1]
                show upd2 σ.1 (3, 0, 0) 1 (σ.1 (3, 0, 0) 1 - 1) = _
                rw [hk]
                rfl
              · intro i hi
                rw [← hσ1]
                match i, hi with
                | 0, _ => rfl
                | 1, _ => rfl
                | 2, _ => rfl
                | 3, _ => rfl
                | 4, _ => rfl
                | i + 5, hi => exact absurd hi (by omega)
              · rw [← hσ1]
                rfl
            · exact absurd zc8 (by decide)
theorem drop_ok {σ σ' : Sg} (hi : HiOK σ) (h6 : hN σ = 6) (e1 : σ'.1 = upd2 σ.1 (3, 0, 0) 1 (nI 5)) (e2 : ∀ i, i < 5 → σ'.2 i = σ.2 (i + 1)) (e3 : σ'.2 5 = σ.2 0) :
    σ'.1 (3, 0, 0) 1 = nI 5 ∧ ((∀ i, i < 6 → 2 ≤ σ'.2 i) ∧ (∀ i j, i < 6 → j < 6 → σ'.2 i = σ'.2 j → i = j) ∧ ∀ i, i < 6 → HOK σ' (σ'.2 i)) ∧ (List.range 5).map (fun i => habs σ' (σ'.2 i)) = (hist σ).tail ∧ (∀ h, habs σ' h = habs σ h ∧ (HOK σ h → HOK σ' h)) ∧ FrHi σ σ' := by
  have ho : ∀ q, q ≠ (3, 0, 0) → σ'.1 q = σ.1 q := fun q hq => by rw [e1]; exact upd2_ne σ.1 (q := (3, 0, 0)) (p := q) 1 (nI 5) hq
  have hh : ∀ h, habs σ' h = habs σ h ∧ (HOK σ h → HOK σ' h) := fun h => habs_of (fun j => ho _ (by simp)) (fun j => ho _ (by simp)) (ho _ (by simp))
  obtain ⟨-, -, g1, g2, g3⟩ := hi
  have key : ∀ i, i < 6 → ∃ k, k < 6 ∧ σ'.2 i = σ.2 k ∧ (i < 5 → k = i + 1) ∧ (i = 5 → k = 0) := fun i h => by
    by_cases h5 : i < 5
    · exact ⟨i + 1, by omega, e2 i h5, fun _ => rfl, fun z => by omega⟩
    · have : i = 5 := by omega
      subst this
      exact ⟨0, by omega, e3, fun z => by omega, fun _ => rfl⟩
  refine ⟨by rw [e1, upd2_same]; simp [upd], ⟨fun i h => ?_, fun i j h h' he => ?_, fun i h => ?_⟩, ?_, hh, fun q hq => ho q (fun z => hq (Or.inl z))⟩
  · obtain ⟨k, k1, k2, -⟩ := key i h
    rw [k2]; exact g1 k k1
  · obtain ⟨k, k1, k2, k3, k4⟩ := key i h
    obtain ⟨m, m1, m2, m3, m4⟩ := key j h'
    have := g2 k m k1 m1 (by rw [← k2, ← m2]; exact he)
    omega
  · obtain ⟨k, k1, k2, -⟩ := key i h
    rw [k2]; exact (hh _).2 (g3 k k1)
  · rw [hist_eq h6]
    show _ = ((List.range 6).map (fun i => habs σ (σ.2 i))).tail
    rw [show List.range 6 = 0 :: (List.range 5).map (· + 1) from rfl, List.map_cons, List.tail_cons, List.map_map]
    apply List.map_congr_left
    intro i hi
    have := List.mem_range.mp hi
    rw [(hh _).1, e2 i this]
    rfl
set_option maxHeartbeats 2000000 in
theorem lp_X0_keep (l : Launch) {σ : Sg} {n : Nat} {post : Option AV → Sg → Prop} (hn : n < 6) (hk : σ.1 (3, 0, 0) 1 = nI n) (hi : ((∀ i, i < 6 → 2 ≤ σ.2 i) ∧ (∀ i j, i < 6 → j < 6 → σ.2 i = σ.2 j → i = j) ∧ ∀ i, i < 6 → HOK σ (σ.2 i))) (h0 : HOK σ 0) (hz : (habs σ 0).2 6 = 0 ∨ (habs σ 0).2 6 = 1) (kk : ∀ σ', HiOK σ' ∧ hist σ' = (List.range n).map (fun i => habs σ (σ.2 i)) ++ [habs σ 0] ∧ FrHi σ σ' → post none σ') : G l (Rm 3) RX0 cX0_keep 3 none post 13 [some (vR (3, 0, 0)), some (vR (2, 0, 0)), none] [] σ := by
  refine g_blk (pc' := 18) (loc' := [some (vR (3, 0, 0)), some (vR (2, 0, 0)), none]) (st' := [vI (σ.1 (3, 0, 0) 1), vR (3, 0, 0)]) (σ' := σ) fl0_ok [(13, .aload_n 0), (14, .aload_n 0), (15, .getfield 16)] (by decide +kernel) rfl rfl ?_
  rw [hk]
  refine g_callVq (3, 0, 0) [vI (nI n)] [] vl_RX0_23 mi_X0_stateAt (c_X0_stateAt l (i := n) hn) rfl rfl rfl rfl ⟨Nat.le_of_ble_eq_true rfl, Nat.le_of_ble_eq_true rfl⟩ rfl (Nat.le_of_ble_eq_true rfl) (by decide +kernel) ?_
  refine g_blk (pc' := 23) (loc' := [some (vR (3, 0, 0)), some (vR (2, 0, 0)), some (vR (2, 0, (σ.2 n)))]) (st' := [vR (2, 0, (σ.2 n))]) (σ' := σ) fl0_ok [(21, .astore_n 2), (22, .aload_n 2)] (by decide +kernel) rfl rfl ?_
  refine g_ifnull (off := 18) (by decide +kernel) ?_
  refine g_blk (pc' := 28) (loc' := [some (vR (3, 0, 0)), some (vR (2, 0, 0)), some (vR (2, 0, (σ.2 n)))]) (st' := [vR (2, 0, 0), vR (2, 0, (σ.2 n))]) (σ' := σ) fl0_ok [(26, .aload_n 2), (27, .aload_n 1)] (by decide +kernel) rfl rfl ?_
  refine g_callV (2, 0, (σ.2 n)) [vR (2, 0, 0)] [] vl_RX0_27 mi_X1_copyFrom (c_X1_copyFrom l (hi.2.2 n hn) h0 (fun z => absurd (hi.1 n hn) (by omega)) hz) rfl rfl rfl rfl ⟨Nat.le_of_ble_eq_true rfl, Nat.le_of_ble_eq_true rfl⟩ rfl (Nat.le_of_ble_eq_true rfl) (by decide +kernel) (fun o σ1 hPσ1 => ?_)
  obtain ⟨rfl, hWσ1⟩ := hPσ1
  refine g_blk (pc' := 41) (loc' := [some (vR (3, 0, 0)), some (vR (2, 0, 0)), some (vR (2, 0, (σ.2 n)))]) (st' := []) (σ' := (upd2 σ1.1 (3, 0, 0) 1 ((σ1.1 (3, 0, 0) 1) + (1 : Int32)), σ1.2)) fl0_ok [(31, .aload_n 0), (32, .dup), (33, .getfield 16), (36, .iconst 1), (37, .iadd), (38, .putfield 16)] (by decide +kernel) rfl rfl ?_
  generalize hσ2 : ((upd2 σ1.1 (3, 0, 0) 1 ((σ1.1 (3, 0, 0) 1) + (1 : Int32)), σ1.2) : Sg) = σ2
  have hkk : σ1.1 (3, 0, 0) = σ.1 (3, 0, 0) := hWσ1.2.2.1 (3, 0, 0) (by simp) (fun j hj => ⟨by simp, by simp⟩)
  rw [hkk, hk, nI_1] at hσ2
  exact g_vret (by decide +kernel) (kk _ (keep_end hn hi hWσ1 hσ2))
set_option maxHeartbeats 2000000 in
theorem c_X0_keep (l : Launch) {σ : Sg}  (hHi : HiOK σ) (h0 : HOK σ 0) (hz : (habs σ 0).2 6 = 0 ∨ (habs σ 0).2 6 = 1) : Con l 3 yX0_keep cX0_keep 3 none [vR (3, 0, 0), vR (2, 0, 0)] σ (fun o σ' => o = none ∧ HiOK σ' ∧ hist σ' = keepL (hist σ) (habs σ 0) ∧ FrHi σ σ') := by
  refine con_of pn_X0_keep (Nat.le_of_ble_eq_true rfl) (fun hPK hok => ?_)
  show G l (Rm 3) RX0 cX0_keep 3 none _ 0 [some (vR (3, 0, 0)), some (vR (2, 0, 0)), none] [] σ
  obtain ⟨h6, he, hp2, hinj, hH6⟩ := id hHi
  refine g_blk (pc' := 6) (loc' := [some (vR (3, 0, 0)), some (vR (2, 0, 0)), none]) (st' := [vI (6 : Int32), vI (σ.1 (3, 0, 0) 1)]) (σ' := σ) fl0_ok [(0, .aload_n 0), (1, .getfield 16), (4, .bipush 6)] (by decide +kernel) rfl rfl ?_
  refine g_icmp_lt (off := 7) (tgt := 13) (by decide +kernel) (by decide) (fun zc6 => ?_) (fun zc6 => ?_)
  · rw [he] at zc6
    have h6b : hN σ < 6 := (nI_ltI (by omega) (by decide)).mp (show nI (hN σ) < nI 6 from zc6)
    exact lp_X0_keep l h6b he ⟨hp2, hinj, hH6⟩ h0 hz (fun σ' hp => ⟨rfl, hp.1, by rw [hp.2.1, keepL, if_pos (by rw [hist, List.length_map, List.length_range]; exact h6b), hist], hp.2.2⟩)
  · rw [he] at zc6
    have h6b : hN σ = 6 := by
      have : ¬ hN σ < 6 := fun z => zc6 (show nI (hN σ) < nI 6 from (nI_ltI (by omega) (by decide)).mpr z)
      omega
    have hk6 : σ.1 (3, 0, 0) 1 = nI 6 := by rw [he, h6b]
    refine g_blk (pc' := 10) (loc' := [some (vR (3, 0, 0)), some (vR (2, 0, 0)), none]) (st' := [vR (3, 0, 0)]) (σ' := σ) fl0_ok [(9, .aload_n 0)] (by decide +kernel) rfl rfl ?_
    refine g_callV (3, 0, 0) [] [] vl_RX0_20 mi_X0_dropOldest (c_X0_dropOldest l hk6) rfl rfl rfl rfl ⟨Nat.le_of_ble_eq_true rfl, Nat.le_of_ble_eq_true rfl⟩ rfl (Nat.le_of_ble_eq_true rfl) (by decide +kernel) (fun o σa hPa => ?_)
    obtain ⟨rfl, ha1, ha2, ha3⟩ := hPa
    obtain ⟨d1, d2, d3, d4, d5⟩ := drop_ok hHi h6b ha1 ha2 ha3
    exact lp_X0_keep l (by decide) d1 d2 ((d4 0).2 h0) (by rw [(d4 0).1]; exact hz) (fun σ' hp => ⟨rfl, hp.1, by rw [hp.2.1, d3, (d4 0).1, keepL, if_neg (by rw [hist, List.length_map, List.length_range]; omega)], fun q hq => (hp.2.2 q hq).trans (d5 q hq)⟩)
set_option maxHeartbeats 2000000 in
theorem c_X0_restore (l : Launch) {σ : Sg} {n : Nat} (hHi : HiOK σ) (hN1 : hN σ = n + 1) (h0 : HOK σ 0) (hz : (habs σ (σ.2 n)).2 6 = 0 ∨ (habs σ (σ.2 n)).2 6 = 1) : Con l 3 yX0_restore cX0_restore 3 none [vR (3, 0, 0), vR (2, 0, 0)] σ (fun o σ' => o = none ∧ HiOK σ' ∧ hist σ' = (List.range n).map (fun i => habs σ (σ.2 i)) ∧ HOK σ' 0 ∧ habs σ' 0 = habs σ (σ.2 n) ∧ ∀ q, q ≠ (3, 0, 0) → q ≠ (2, 0, 0) → (∀ j, j < 5 → q ≠ (0, j, 0) ∧ q ≠ (1, j, 0)) → σ'.1 q = σ.1 q) := by
  refine con_of pn_X0_restore (Nat.le_of_ble_eq_true rfl) (fun hPK hok => ?_)
  show G l (Rm 3) RX0 cX0_restore 3 none _ 0 [some (vR (3, 0, 0)), some (vR (2, 0, 0)), none] [] σ
  obtain ⟨h6, he, hp2, hinj, hH6⟩ := id hHi
  have hn : n < 6 := by omega
  refine g_blk (pc' := 7) (loc' := [some (vR (3, 0, 0)), some (vR (2, 0, 0)), none]) (st' := [vI ((σ.1 (3, 0, 0) 1) - (1 : Int32)), vR (3, 0, 0)]) (σ' := σ) fl0_ok [(0, .aload_n 0), (1, .aload_n 0), (2, .getfield 16), (5, .iconst 1), (6, .isub)] (by decide +kernel) rfl rfl ?_
  rw [he, hN1, nI_pred]
  refine g_callVq (3, 0, 0) [vI (nI n)] [] vl_RX0_23 mi_X0_stateAt (c_X0_stateAt l (i := n) hn) rfl rfl rfl rfl ⟨Nat.le_of_ble_eq_true rfl, Nat.le_of_ble_eq_true rfl⟩ rfl (Nat.le_of_ble_eq_true rfl) (by decide +kernel) ?_
  refine g_blk (pc' := 12) (loc' := [some (vR (3, 0, 0)), some (vR (2, 0, 0)), some (vR (2, 0, (σ.2 n)))]) (st' := [vR (2, 0, (σ.2 n))]) (σ' := σ) fl0_ok [(10, .astore_n 2), (11, .aload_n 2)] (by decide +kernel) rfl rfl ?_
  refine g_ifnull (off := 18) (by decide +kernel) ?_
  refine g_blk (pc' := 17) (loc' := [some (vR (3, 0, 0)), some (vR (2, 0, 0)), some (vR (2, 0, (σ.2 n)))]) (st' := [vR (2, 0, (σ.2 n)), vR (2, 0, 0)]) (σ' := σ) fl0_ok [(15, .aload_n 1), (16, .aload_n 2)] (by decide +kernel) rfl rfl ?_
  refine g_callV (2, 0, 0) [vR (2, 0, (σ.2 n))] [] vl_RX0_27 mi_X1_copyFrom (c_X1_copyFrom l h0 (hH6 n hn) (fun z => absurd (hp2 n hn) (by omega)) hz) rfl rfl rfl rfl ⟨Nat.le_of_ble_eq_true rfl, Nat.le_of_ble_eq_true rfl⟩ rfl (Nat.le_of_ble_eq_true rfl) (by decide +kernel) (fun o σ1 hPσ1 => ?_)
  obtain ⟨rfl, hWσ1⟩ := hPσ1
  refine g_blk (pc' := 30) (loc' := [some (vR (3, 0, 0)), some (vR (2, 0, 0)), some (vR (2, 0, (σ.2 n)))]) (st' := []) (σ' := (upd2 σ1.1 (3, 0, 0) 1 ((σ1.1 (3, 0, 0) 1) - (1 : Int32)), σ1.2)) fl0_ok [(20, .aload_n 0), (21, .dup), (22, .getfield 16), (25, .iconst 1), (26, .isub), (27, .putfield 16)] (by decide +kernel) rfl rfl ?_
  generalize hσ2 : ((upd2 σ1.1 (3, 0, 0) 1 ((σ1.1 (3, 0, 0) 1) - (1 : Int32)), σ1.2) : Sg) = σ2
  have hkk : σ1.1 (3, 0, 0) = σ.1 (3, 0, 0) := hWσ1.2.2.1 (3, 0, 0) (by simp) (fun j hj => ⟨by simp, by simp⟩)
  rw [hkk, he, hN1, nI_pred] at hσ2
  have hp : σ1.2 = σ.2 := hWσ1.2.2.2
  have hne : ∀ i, i < 6 → σ.2 i ≠ 0 := fun i hi z => absurd (hp2 i hi) (by omega)
  obtain ⟨g1, g2, g3, g4, g5⟩ := hi_N (show n ≤ 6 by omega) hσ2 (by rw [hp]; exact ⟨hp2, hinj, fun i hi => (hw_other (hne i hi) hWσ1.2.2).2 (hH6 i hi)⟩)
  exact g_vret (by decide +kernel) ⟨rfl, g1, by
    rw [hist_eq g2]
    apply List.map_congr_left
    intro i him
    have hin := List.mem_range.mp him
    rw [(g4 _).1, g3, hp, (hw_other (hne i (by omega)) hWσ1.2.2).1], (g4 0).2 hWσ1.2.1, by rw [(g4 0).1, hWσ1.1], fun q hq hq0 hq1 => (g5 q hq).trans (hWσ1.2.2.1 q hq0 hq1)⟩
