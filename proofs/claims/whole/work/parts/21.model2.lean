/-! THE MODEL: its writers (laid by wip/whole/mk21.py) -/
set_option maxHeartbeats 2000000 in
theorem c_X5_clean (l : Launch) {σ : Sg} {f : Nat → Int32} {x : Int32} {a : Nat} (hx : x = nI a) (ha : a < 6) : Con l 1 yX5_clean cX5_clean 2 none [vR (8, 0, 0), vI x] (sa σ f) (fun o σ' => o = none ∧ σ' = sa σ (cleanM f a)) := by
  subst hx
  refine con_of pn_X5_clean (Nat.le_of_ble_eq_true rfl) (fun hPK hok => ?_)
  show G l (Rm 1) RX5 cX5_clean 2 none _ 0 [some (vR (8, 0, 0)), some (vI (nI a))] [] (sa σ f)
  refine g_blk (pc' := 4) (loc' := [some (vR (8, 0, 0)), some (vI (nI a))]) (st' := [vI (0 : Int32), vI (3 : Int32), vI (nI a), vR (8, 0, 0)]) (σ' := sa σ f) fl5_ok [(0, .aload_n 0), (1, .iload_n 1), (2, .iconst 3), (3, .iconst 0)] (by decide +kernel) rfl rfl ?_
  refine g_callV (8, 0, 0) [vI (nI a), vI (3 : Int32), vI (0 : Int32)] [] vl_RX5_51 mi_X5_layArea (c_X5_layArea l (r := a) (c := 3) (0 : Int32) rfl rfl (by omega) (by omega)) rfl rfl rfl rfl ⟨Nat.le_of_ble_eq_true rfl, Nat.le_of_ble_eq_true rfl⟩ rfl (Nat.le_of_ble_eq_true rfl) (by decide +kernel) (fun o σ1 hP => ?_)
  obtain ⟨rfl, rfl⟩ := hP
  refine g_blk (pc' := 13) (loc' := [some (vR (8, 0, 0)), some (vI (nI a))]) (st' := [vI (4 : Int32), vI (nI a), vR (8, 0, 0), vI (4 : Int32), vI (nI a), vR (8, 0, 0)]) (σ' := sa σ (sA f a 3 (0 : Int32))) fl5_ok [(7, .aload_n 0), (8, .iload_n 1), (9, .iconst 4), (10, .aload_n 0), (11, .iload_n 1), (12, .iconst 4)] (by decide +kernel) rfl rfl ?_
  refine g_callVp (8, 0, 0) [vI (nI a), vI (4 : Int32)] [vI (4 : Int32), vI (nI a), vR (8, 0, 0)] vl_RX5_62 mi_X5_ofArea (c_X5_ofArea l (r := a) (c := 4) rfl rfl (by omega) (by omega)) rfl rfl rfl rfl ⟨Nat.le_of_ble_eq_true rfl, Nat.le_of_ble_eq_true rfl⟩ rfl (Nat.le_of_ble_eq_true rfl) (by decide +kernel) ?_
  refine g_blk (pc' := 18) (loc' := [some (vR (8, 0, 0)), some (vI (nI a))]) (st' := [vI ((ma (sA f a 3 (0 : Int32)) a 4) + (1 : Int32)), vI (4 : Int32), vI (nI a), vR (8, 0, 0)]) (σ' := sa σ (sA f a 3 (0 : Int32))) fl5_ok [(16, .iconst 1), (17, .iadd)] (by decide +kernel) rfl rfl ?_
  refine g_callV (8, 0, 0) [vI (nI a), vI (4 : Int32), vI ((ma (sA f a 3 (0 : Int32)) a 4) + (1 : Int32))] [] vl_RX5_51 mi_X5_layArea (c_X5_layArea l (r := a) (c := 4) ((ma (sA f a 3 (0 : Int32)) a 4) + (1 : Int32)) rfl rfl (by omega) (by omega)) rfl rfl rfl rfl ⟨Nat.le_of_ble_eq_true rfl, Nat.le_of_ble_eq_true rfl⟩ rfl (Nat.le_of_ble_eq_true rfl) (by decide +kernel) (fun o σ2 hP => ?_)
  obtain ⟨rfl, rfl⟩ := hP
  exact g_vret (by decide +kernel) (by exact ⟨rfl, rfl⟩)
set_option maxHeartbeats 2000000 in
theorem c_X5_exchange (l : Launch) {σ : Sg} {f : Nat → Int32} {x y : Int32} {a b : Nat} (hx : x = nI a) (hy : y = nI b) (ha : a < 12) (hb : b < 12) : Con l 1 yX5_exchange cX5_exchange 4 none [vR (8, 0, 0), vI x, vI y] (sa σ f) (fun o σ' => o = none ∧ σ' = sa σ (exM f a b)) := by
  subst hx hy
  refine con_of pn_X5_exchange (Nat.le_of_ble_eq_true rfl) (fun hPK hok => ?_)
  show G l (Rm 1) RX5 cX5_exchange 4 none _ 0 [some (vR (8, 0, 0)), some (vI (nI a)), some (vI (nI b)), none] [] (sa σ f)
  refine g_blk (pc' := 3) (loc' := [some (vR (8, 0, 0)), some (vI (nI a)), some (vI (nI b)), none]) (st' := [vI (1 : Int32), vI (nI a), vR (8, 0, 0)]) (σ' := sa σ f) fl5_ok [(0, .aload_n 0), (1, .iload_n 1), (2, .iconst 1)] (by decide +kernel) rfl rfl ?_
  refine g_callVp (8, 0, 0) [vI (nI a), vI (1 : Int32)] [] vl_RX5_65 mi_X5_ofTask (c_X5_ofTask l (r := a) (c := 1) rfl rfl (by omega) (by omega)) rfl rfl rfl rfl ⟨Nat.le_of_ble_eq_true rfl, Nat.le_of_ble_eq_true rfl⟩ rfl (Nat.le_of_ble_eq_true rfl) (by decide +kernel) ?_
  refine g_blk (pc' := 13) (loc' := [some (vR (8, 0, 0)), some (vI (nI a)), some (vI (nI b)), some (vI (mk f a 1))]) (st' := [vI (1 : Int32), vI (nI b), vR (8, 0, 0), vI (1 : Int32), vI (nI a), vR (8, 0, 0)]) (σ' := sa σ f) fl5_ok [(6, .istore_n 3), (7, .aload_n 0), (8, .iload_n 1), (9, .iconst 1), (10, .aload_n 0), (11, .iload_n 2), (12, .iconst 1)] (by decide +kernel) rfl rfl ?_
  refine g_callVp (8, 0, 0) [vI (nI b), vI (1 : Int32)] [vI (1 : Int32), vI (nI a), vR (8, 0, 0)] vl_RX5_65 mi_X5_ofTask (c_X5_ofTask l (r := b) (c := 1) rfl rfl (by omega) (by omega)) rfl rfl rfl rfl ⟨Nat.le_of_ble_eq_true rfl, Nat.le_of_ble_eq_true rfl⟩ rfl (Nat.le_of_ble_eq_true rfl) (by decide +kernel) ?_
  refine g_callV (8, 0, 0) [vI (nI a), vI (1 : Int32), vI (mk f b 1)] [] vl_RX5_68 mi_X5_layTask (c_X5_layTask l (r := a) (c := 1) (mk f b 1) rfl rfl (by omega) (by omega)) rfl rfl rfl rfl ⟨Nat.le_of_ble_eq_true rfl, Nat.le_of_ble_eq_true rfl⟩ rfl (Nat.le_of_ble_eq_true rfl) (by decide +kernel) (fun o σ1 hP => ?_)
  obtain ⟨rfl, rfl⟩ := hP
  refine g_blk (pc' := 23) (loc' := [some (vR (8, 0, 0)), some (vI (nI a)), some (vI (nI b)), some (vI (mk f a 1))]) (st' := [vI (mk f a 1), vI (1 : Int32), vI (nI b), vR (8, 0, 0)]) (σ' := sa σ (sk f a 1 (mk f b 1))) fl5_ok [(19, .aload_n 0), (20, .iload_n 2), (21, .iconst 1), (22, .iload_n 3)] (by decide +kernel) rfl rfl ?_
  refine g_callV (8, 0, 0) [vI (nI b), vI (1 : Int32), vI (mk f a 1)] [] vl_RX5_68 mi_X5_layTask (c_X5_layTask l (r := b) (c := 1) (mk f a 1) rfl rfl (by omega) (by omega)) rfl rfl rfl rfl ⟨Nat.le_of_ble_eq_true rfl, Nat.le_of_ble_eq_true rfl⟩ rfl (Nat.le_of_ble_eq_true rfl) (by decide +kernel) (fun o σ2 hP => ?_)
  obtain ⟨rfl, rfl⟩ := hP
  exact g_vret (by decide +kernel) (by exact ⟨rfl, rfl⟩)
set_option maxHeartbeats 2000000 in
theorem lp_X5_addE (l : Launch) {σ : Sg} {f : Nat → Int32} {e d : Int32} {a k nt : Nat} (hk : k < 12) (hnt : f 3 = nI nt) : G l (Rm 1) RX5 cX5_addTask 6 none (fun o σ' => o = none ∧ σ' = sa σ (upd (putT f k a e d) 3 (nI (nt + 1)))) 65 [some (vR (8, 0, 0)), some (vI (nI a)), some (vI e), some (vI d), some (vI (nI k)), none] [] (sa σ f) := by
  refine g_blk (pc' := 70) (loc' := [some (vR (8, 0, 0)), some (vI (nI a)), some (vI e), some (vI d), some (vI (nI k)), none]) (st' := [vI (nI a), vI (0 : Int32), vI (nI k), vR (8, 0, 0)]) (σ' := sa σ f) fl5_ok [(65, .aload_n 0), (66, .iload 4), (68, .iconst 0), (69, .iload_n 1)] (by decide +kernel) rfl rfl ?_
  refine g_callV (8, 0, 0) [vI (nI k), vI (0 : Int32), vI (nI a)] [] vl_RX5_68 mi_X5_layTask (c_X5_layTask l (r := k) (c := 0) (nI a) rfl rfl (by omega) (by omega)) rfl rfl rfl rfl ⟨Nat.le_of_ble_eq_true rfl, Nat.le_of_ble_eq_true rfl⟩ rfl (Nat.le_of_ble_eq_true rfl) (by decide +kernel) (fun o σ1 hP => ?_)
  obtain ⟨rfl, rfl⟩ := hP
  refine g_blk (pc' := 79) (loc' := [some (vR (8, 0, 0)), some (vI (nI a)), some (vI e), some (vI d), some (vI (nI k)), none]) (st' := [vI (-6 : Int32), vI (1 : Int32), vI (nI k), vR (8, 0, 0)]) (σ' := sa σ (sk f k 0 (nI a))) fl5_ok [(73, .aload_n 0), (74, .iload 4), (76, .iconst 1), (77, .bipush (-6))] (by decide +kernel) rfl rfl ?_
  refine g_callV (8, 0, 0) [vI (nI k), vI (1 : Int32), vI (-6 : Int32)] [] vl_RX5_68 mi_X5_layTask (c_X5_layTask l (r := k) (c := 1) (-6 : Int32) rfl rfl (by omega) (by omega)) rfl rfl rfl rfl ⟨Nat.le_of_ble_eq_true rfl, Nat.le_of_ble_eq_true rfl⟩ rfl (Nat.le_of_ble_eq_true rfl) (by decide +kernel) (fun o σ2 hP => ?_)
  obtain ⟨rfl, rfl⟩ := hP
  refine g_blk (pc' := 87) (loc' := [some (vR (8, 0, 0)), some (vI (nI a)), some (vI e), some (vI d), some (vI (nI k)), none]) (st' := [vI e, vI (2 : Int32), vI (nI k), vR (8, 0, 0)]) (σ' := sa σ (sk (sk f k 0 (nI a)) k 1 (-6 : Int32))) fl5_ok [(82, .aload_n 0), (83, .iload 4), (85, .iconst 2), (86, .iload_n 2)] (by decide +kernel) rfl rfl ?_
  refine g_callV (8, 0, 0) [vI (nI k), vI (2 : Int32), vI e] [] vl_RX5_68 mi_X5_layTask (c_X5_layTask l (r := k) (c := 2) e rfl rfl (by omega) (by omega)) rfl rfl rfl rfl ⟨Nat.le_of_ble_eq_true rfl, Nat.le_of_ble_eq_true rfl⟩ rfl (Nat.le_of_ble_eq_true rfl) (by decide +kernel) (fun o σ3 hP => ?_)
  obtain ⟨rfl, rfl⟩ := hP
  refine g_blk (pc' := 95) (loc' := [some (vR (8, 0, 0)), some (vI (nI a)), some (vI e), some (vI d), some (vI (nI k)), none]) (st' := [vI (0 : Int32), vI (3 : Int32), vI (nI k), vR (8, 0, 0)]) (σ' := sa σ (sk (sk (sk f k 0 (nI a)) k 1 (-6 : Int32)) k 2 e)) fl5_ok [(90, .aload_n 0), (91, .iload 4), (93, .iconst 3), (94, .iconst 0)] (by decide +kernel) rfl rfl ?_
  refine g_callV (8, 0, 0) [vI (nI k), vI (3 : Int32), vI (0 : Int32)] [] vl_RX5_68 mi_X5_layTask (c_X5_layTask l (r := k) (c := 3) (0 : Int32) rfl rfl (by omega) (by omega)) rfl rfl rfl rfl ⟨Nat.le_of_ble_eq_true rfl, Nat.le_of_ble_eq_true rfl⟩ rfl (Nat.le_of_ble_eq_true rfl) (by decide +kernel) (fun o σ4 hP => ?_)
  obtain ⟨rfl, rfl⟩ := hP
  refine g_blk (pc' := 103) (loc' := [some (vR (8, 0, 0)), some (vI (nI a)), some (vI e), some (vI d), some (vI (nI k)), none]) (st' := [vI d, vI (4 : Int32), vI (nI k), vR (8, 0, 0)]) (σ' := sa σ (sk (sk (sk (sk f k 0 (nI a)) k 1 (-6 : Int32)) k 2 e) k 3 (0 : Int32))) fl5_ok [(98, .aload_n 0), (99, .iload 4), (101, .iconst 4), (102, .iload_n 3)] (by decide +kernel) rfl rfl ?_
  refine g_callV (8, 0, 0) [vI (nI k), vI (4 : Int32), vI d] [] vl_RX5_68 mi_X5_layTask (c_X5_layTask l (r := k) (c := 4) d rfl rfl (by omega) (by omega)) rfl rfl rfl rfl ⟨Nat.le_of_ble_eq_true rfl, Nat.le_of_ble_eq_true rfl⟩ rfl (Nat.le_of_ble_eq_true rfl) (by decide +kernel) (fun o σ5 hP => ?_)
  obtain ⟨rfl, rfl⟩ := hP
  refine g_blk (pc' := 115) (loc' := [some (vR (8, 0, 0)), some (vI (nI a)), some (vI e), some (vI d), some (vI (nI k)), none]) (st' := [vI (((sk (sk (sk (sk (sk f k 0 (nI a)) k 1 (-6 : Int32)) k 2 e) k 3 (0 : Int32)) k 4 d) 3) + (1 : Int32)), vI (3 : Int32), vR (9, 0, 0)]) (σ' := sa σ (sk (sk (sk (sk (sk f k 0 (nI a)) k 1 (-6 : Int32)) k 2 e) k 3 (0 : Int32)) k 4 d)) fl5_ok [(106, .aload_n 0), (107, .getfield 7), (110, .iconst 3), (111, .dup2), (112, .iaload), (113, .iconst 1), (114, .iadd)] (by decide +kernel) rfl rfl ?_
  refine g_sst (k := 3) rfl (by omega) (by decide +kernel) ?_
  have h3 : putT f k a e d 3 = nI nt := by rw [putT_lo (by decide)]; exact hnt
  exact g_vret (by decide +kernel) ⟨rfl, by rw [show (nI (nt + 1)) = putT f k a e d 3 + 1 by rw [h3, nI_1]]; rfl⟩
set_option maxHeartbeats 2000000 in
theorem lp_X5_addC (l : Launch) {σ : Sg} {e d : Int32} {a j nt : Nat} {Q : (Nat → Int32) × Nat} {F : Nat → Int32} (hj : j < 11) (kk : G l (Rm 1) RX5 cX5_addTask 6 none (fun o σ' => o = none ∧ σ' = sa σ (upd (putT Q.1 Q.2 a e d) 3 (nI (nt + 1)))) 59 [some (vR (8, 0, 0)), some (vI (nI a)), some (vI e), some (vI d), some (vI (nI (j + 1))), none] [] (sa σ F)) : ∀ (k c : Nat) (f : Nat → Int32), c + k = 5 → cpR f j k c = F → G l (Rm 1) RX5 cX5_addTask 6 none (fun o σ' => o = none ∧ σ' = sa σ (upd (putT Q.1 Q.2 a e d) 3 (nI (nt + 1)))) 29 [some (vR (8, 0, 0)), some (vI (nI a)), some (vI e), some (vI d), some (vI (nI (j + 1))), some (vI (nI c))] [] (sa σ f) := by
  intro k
  induction k with
  | zero =>
    intro c f hk hd
    refine g_blk (pc' := 32) (loc' := [some (vR (8, 0, 0)), some (vI (nI a)), some (vI e), some (vI d), some (vI (nI (j + 1))), some (vI (nI c))]) (st' := [vI (5 : Int32), vI (nI c)]) (σ' := sa σ f) fl5_ok [(29, .iload 5), (31, .iconst 5)] (by decide +kernel) rfl rfl ?_
    refine g_icmp_ge (off := 27) (tgt := 59) (by decide +kernel) (by decide) (fun zc32 => ?_) (fun zc32 => ?_)
    · rw [show (5 : Int32) = nI 5 from rfl] at zc32
      rw [nI_leI (by omega) (by omega)] at zc32
      have hd : f = F := hd
      subst hd
      exact g_sub (loc' := [some (vR (8, 0, 0)), some (vI (nI a)), some (vI e), some (vI d), some (vI (nI (j + 1))), none]) ⟨Or.inr rfl, Or.inr rfl, Or.inr rfl, Or.inr rfl, Or.inr rfl, Or.inl rfl, trivial⟩ kk
    · rw [show (5 : Int32) = nI 5 from rfl] at zc32
      rw [nI_leI (by omega) (by omega)] at zc32
      exact absurd (by omega) zc32
  | succ k ih =>
    intro c f hk hd
    refine g_blk (pc' := 32) (loc' := [some (vR (8, 0, 0)), some (vI (nI a)), some (vI e), some (vI d), some (vI (nI (j + 1))), some (vI (nI c))]) (st' := [vI (5 : Int32), vI (nI c)]) (σ' := sa σ f) fl5_ok [(29, .iload 5), (31, .iconst 5)] (by decide +kernel) rfl rfl ?_
    refine g_icmp_ge (off := 27) (tgt := 59) (by decide +kernel) (by decide) (fun zc32 => ?_) (fun zc32 => ?_)
    · rw [show (5 : Int32) = nI 5 from rfl] at zc32
      rw [nI_leI (by omega) (by omega)] at zc32
      exact absurd zc32 (by omega)
    · rw [show (5 : Int32) = nI 5 from rfl] at zc32
      rw [nI_leI (by omega) (by omega)] at zc32
      refine g_blk (pc' := 47) (loc' := [some (vR (8, 0, 0)), some (vI (nI a)), some (vI e), some (vI d), some (vI (nI (j + 1))), some (vI (nI c))]) (st' := [vI (nI c), vI ((nI (j + 1)) - (1 : Int32)), vR (8, 0, 0), vI (nI c), vI (nI (j + 1)), vR (8, 0, 0)]) (σ' := sa σ f) fl5_ok [(35, .aload_n 0), (36, .iload 4), (38, .iload 5), (40, .aload_n 0), (41, .iload 4), (43, .iconst 1), (44, .isub), (45, .iload 5)] (by decide +kernel) rfl rfl ?_
      refine g_callVp (8, 0, 0) [vI ((nI (j + 1)) - (1 : Int32)), vI (nI c)] [vI (nI c), vI (nI (j + 1)), vR (8, 0, 0)] vl_RX5_65 mi_X5_ofTask (c_X5_ofTask l (r := j) (c := c) (nI_pred j) rfl (by omega) (by omega)) rfl rfl rfl rfl ⟨Nat.le_of_ble_eq_true rfl, Nat.le_of_ble_eq_true rfl⟩ rfl (Nat.le_of_ble_eq_true rfl) (by decide +kernel) ?_
      refine g_callV (8, 0, 0) [vI (nI (j + 1)), vI (nI c), vI (mk f j c)] [] vl_RX5_68 mi_X5_layTask (c_X5_layTask l (r := (j + 1)) (c := c) (mk f j c) rfl rfl (by omega) (by omega)) rfl rfl rfl rfl ⟨Nat.le_of_ble_eq_true rfl, Nat.le_of_ble_eq_true rfl⟩ rfl (Nat.le_of_ble_eq_true rfl) (by decide +kernel) (fun o σ1 hP => ?_)
      obtain ⟨rfl, rfl⟩ := hP
      refine g_blk (pc' := 29) (loc' := [some (vR (8, 0, 0)), some (vI (nI a)), some (vI e), some (vI d), some (vI (nI (j + 1))), some (vI ((nI c) + (1 : Int32)))]) (st' := []) (σ' := sa σ (sk f (j + 1) c (mk f j c))) fl5_ok [(53, .iinc 5 1), (56, .goto (-27))] (by decide +kernel) rfl rfl ?_
      rw [cpR] at hd
      rw [nI_1]
      exact ih (c + 1) _ (by omega) hd
set_option maxHeartbeats 2000000 in
theorem lp_X5_addK (l : Launch) {σ : Sg} {e d : Int32} {a nt : Nat} {Q : (Nat → Int32) × Nat} : ∀ (k : Nat) (f : Nat → Int32), k < 12 → shM e k f = Q → f 3 = nI nt → G l (Rm 1) RX5 cX5_addTask 6 none (fun o σ' => o = none ∧ σ' = sa σ (upd (putT Q.1 Q.2 a e d) 3 (nI (nt + 1)))) 8 [some (vR (8, 0, 0)), some (vI (nI a)), some (vI e), some (vI d), some (vI (nI k)), none] [] (sa σ f) := by
  intro k
  induction k with
  | zero =>
    intro f hk hd hf
    refine g_blk (pc' := 10) (loc' := [some (vR (8, 0, 0)), some (vI (nI a)), some (vI e), some (vI d), some (vI (nI 0)), none]) (st' := [vI (nI 0)]) (σ' := sa σ f) fl5_ok [(8, .iload 4)] (by decide +kernel) rfl rfl ?_
    refine g_if_le (off := 55) (tgt := 65) (by decide +kernel) (by decide) (fun zc10 => ?_) (fun zc10 => ?_)
    · have hd : (f, 0) = Q := hd
      rw [← hd]
      exact lp_X5_addE l (by omega) hf
    · exact absurd (by decide) zc10
  | succ k ih =>
    intro f hk hd hf
    refine g_blk (pc' := 10) (loc' := [some (vR (8, 0, 0)), some (vI (nI a)), some (vI e), some (vI d), some (vI (nI (k + 1))), none]) (st' := [vI (nI (k + 1))]) (σ' := sa σ f) fl5_ok [(8, .iload 4)] (by decide +kernel) rfl rfl ?_
    refine g_if_le (off := 55) (tgt := 65) (by decide +kernel) (by decide) (fun zc10 => ?_) (fun zc10 => ?_)
    · exact absurd zc10 (nI_ge (b := k + 1) (a := 0) (by omega) (by omega))
    · refine g_blk (pc' := 19) (loc' := [some (vR (8, 0, 0)), some (vI (nI a)), some (vI e), some (vI d), some (vI (nI (k + 1))), none]) (st' := [vI (2 : Int32), vI ((nI (k + 1)) - (1 : Int32)), vR (8, 0, 0)]) (σ' := sa σ f) fl5_ok [(13, .aload_n 0), (14, .iload 4), (16, .iconst 1), (17, .isub), (18, .iconst 2)] (by decide +kernel) rfl rfl ?_
      refine g_callVp (8, 0, 0) [vI ((nI (k + 1)) - (1 : Int32)), vI (2 : Int32)] [] vl_RX5_65 mi_X5_ofTask (c_X5_ofTask l (r := k) (c := 2) (nI_pred k) rfl (by omega) (by omega)) rfl rfl rfl rfl ⟨Nat.le_of_ble_eq_true rfl, Nat.le_of_ble_eq_true rfl⟩ rfl (Nat.le_of_ble_eq_true rfl) (by decide +kernel) ?_
      refine g_blk (pc' := 23) (loc' := [some (vR (8, 0, 0)), some (vI (nI a)), some (vI e), some (vI d), some (vI (nI (k + 1))), none]) (st' := [vI e, vI (mk f k 2)]) (σ' := sa σ f) fl5_ok [(22, .iload_n 2)] (by decide +kernel) rfl rfl ?_
      refine g_icmp_ge (off := 42) (tgt := 65) (by decide +kernel) (by decide) (fun zc23 => ?_) (fun zc23 => ?_)
      · rw [shM, if_pos zc23] at hd
        rw [← hd]
        exact lp_X5_addE l (by omega) hf
      · refine g_blk (pc' := 29) (loc' := [some (vR (8, 0, 0)), some (vI (nI a)), some (vI e), some (vI d), some (vI (nI (k + 1))), some (vI (0 : Int32))]) (st' := []) (σ' := sa σ f) fl5_ok [(26, .iconst 0), (27, .istore 5)] (by decide +kernel) rfl rfl ?_
        rw [shM, if_neg zc23] at hd
        refine lp_X5_addC l (F := cpR f k 5 0) (by omega) ?_ 5 0 f (by omega) rfl
        refine g_blk (pc' := 8) (loc' := [some (vR (8, 0, 0)), some (vI (nI a)), some (vI e), some (vI d), some (vI ((nI (k + 1)) + (-1 : Int32))), none]) (st' := []) (σ' := sa σ (cpR f k 5 0)) fl5_ok [(59, .iinc 4 (-1)), (62, .goto (-54))] (by decide +kernel) rfl rfl ?_
        rw [im1, nI_pred]
        exact ih _ (by omega) hd (by rw [cpR_lo (by decide)]; exact hf)
set_option maxHeartbeats 2000000 in
theorem c_X5_addTask (l : Launch) {σ : Sg} {f : Nat → Int32} {x : Int32} {a nt : Nat} (e d : Int32) (hx : x = nI a) (hnt : f 3 = nI nt) (h12 : nt < 12) : Con l 1 yX5_addTask cX5_addTask 6 none [vR (8, 0, 0), vI x, vI e, vI d] (sa σ f) (fun o σ' => o = none ∧ σ' = sa σ (addM f nt a e d)) := by
  subst hx
  refine con_of pn_X5_addTask (Nat.le_of_ble_eq_true rfl) (fun hPK hok => ?_)
  show G l (Rm 1) RX5 cX5_addTask 6 none _ 0 [some (vR (8, 0, 0)), some (vI (nI a)), some (vI e), some (vI d), none, none] [] (sa σ f)
  refine g_blk (pc' := 8) (loc' := [some (vR (8, 0, 0)), some (vI (nI a)), some (vI e), some (vI d), some (vI (f 3)), none]) (st' := []) (σ' := sa σ f) fl5_ok [(0, .aload_n 0), (1, .getfield 7), (4, .iconst 3), (5, .iaload), (6, .istore 4)] (by decide +kernel) rfl rfl ?_
  rw [hnt]
  exact lp_X5_addK l nt f h12 rfl hnt
theorem ix150k (k : Nat) : (150 : Int32) + nI k = nI (150 + k) := by rw [show (150 : Int32) = nI 150 from rfl, nI_add]
theorem ix150k2 (k : Nat) : (150 : Int32) + nI k + (2 : Int32) = nI (150 + k + 2) := by rw [ix150k, show (2 : Int32) = nI 2 from rfl, nI_add]
theorem ix2 (k : Nat) : (2 : Int32) * nI k = nI (2 * k) := by rw [show (2 : Int32) = nI 2 from rfl, pk_mul]
set_option maxHeartbeats 2000000 in
theorem lp_X5_removeSwap (l : Launch) {σ : Sg} {s m : Nat} {F : Nat → Int32} (h6 : m < 6) : ∀ (k j : Nat) (f : Nat → Int32), j + k = 2 * m → f 7 = nI m → rmF (2 * m) k f = F → G l (Rm 0) RX5 cX5_removeSwap 3 none (fun o σ' => o = none ∧ σ' = sa σ (F)) 15 [some (vR (8, 0, 0)), some (vI (nI s)), some (vI (nI j))] [] (sa σ f) := by
  intro k
  induction k with
  | zero =>
    intro j f hk h7 hd
    refine g_blk (pc' := 25) (loc' := [some (vR (8, 0, 0)), some (vI (nI s)), some (vI (nI j))]) (st' := [vI ((2 : Int32) * (f 7)), vI (nI j)]) (σ' := sa σ f) fl5_ok [(15, .iload_n 2), (16, .iconst 2), (17, .aload_n 0), (18, .getfield 7), (21, .bipush 7), (23, .iaload), (24, .imul)] (by decide +kernel) rfl rfl ?_
    refine g_icmp_ge (off := 31) (tgt := 56) (by decide +kernel) (by decide) (fun zc25 => ?_) (fun zc25 => ?_)
    · rw [h7, ix2] at zc25
      rw [nI_leI (by omega) (by omega)] at zc25
      exact g_vret (by decide +kernel) ⟨rfl, by rw [← hd]; rfl⟩
    · rw [h7, ix2] at zc25
      rw [nI_leI (by omega) (by omega)] at zc25
      exact absurd (by omega) zc25
  | succ k ih =>
    intro j f hk h7 hd
    refine g_blk (pc' := 25) (loc' := [some (vR (8, 0, 0)), some (vI (nI s)), some (vI (nI j))]) (st' := [vI ((2 : Int32) * (f 7)), vI (nI j)]) (σ' := sa σ f) fl5_ok [(15, .iload_n 2), (16, .iconst 2), (17, .aload_n 0), (18, .getfield 7), (21, .bipush 7), (23, .iaload), (24, .imul)] (by decide +kernel) rfl rfl ?_
    refine g_icmp_ge (off := 31) (tgt := 56) (by decide +kernel) (by decide) (fun zc25 => ?_) (fun zc25 => ?_)
    · rw [h7, ix2] at zc25
      rw [nI_leI (by omega) (by omega)] at zc25
      exact absurd zc25 (by omega)
    · rw [h7, ix2] at zc25
      rw [nI_leI (by omega) (by omega)] at zc25
      refine g_blk (pc' := 48) (loc' := [some (vR (8, 0, 0)), some (vI (nI s)), some (vI (nI j))]) (st' := [vI (((150 : Int32) + (nI j)) + (2 : Int32)), vR (9, 0, 0), vI ((150 : Int32) + (nI j)), vR (9, 0, 0)]) (σ' := sa σ f) fl5_ok [(28, .aload_n 0), (29, .getfield 7), (32, .sipush 150), (35, .iload_n 2), (36, .iadd), (37, .aload_n 0), (38, .getfield 7), (41, .sipush 150), (44, .iload_n 2), (45, .iadd), (46, .iconst 2), (47, .iadd)] (by decide +kernel) rfl rfl ?_
      refine g_sld (k := (150 + j + 2)) (ix150k2 j) (by omega) (by decide +kernel) ?_
      refine g_sst (k := (150 + j)) (ix150k j) (by omega) (by decide +kernel) ?_
      refine g_blk (pc' := 15) (loc' := [some (vR (8, 0, 0)), some (vI (nI s)), some (vI ((nI j) + (1 : Int32)))]) (st' := []) (σ' := sa σ (upd f (150 + j) (f (150 + j + 2)))) fl5_ok [(50, .iinc 2 1), (53, .goto (-38))] (by decide +kernel) rfl rfl ?_
      rw [rmF, show 2 * m - (k + 1) = j by omega] at hd
      rw [nI_1]
      exact ih (j + 1) _ (by omega) (by rw [up_ne (by omega)]; exact h7) hd
set_option maxHeartbeats 2000000 in
theorem c_X5_removeSwap (l : Launch) {σ : Sg} {f : Nat → Int32} {x : Int32} {s ns : Nat} (hx : x = nI s) (hns : f 7 = nI ns) (hs : s < ns) (h6 : ns ≤ 6) : Con l 0 yX5_removeSwap cX5_removeSwap 3 none [vR (8, 0, 0), vI x] (sa σ f) (fun o σ' => o = none ∧ σ' = sa σ (rmM f ns s)) := by
  subst hx
  obtain ⟨m, rfl⟩ : ∃ m, ns = m + 1 := ⟨ns - 1, by omega⟩
  refine con_of pn_X5_removeSwap (Nat.le_of_ble_eq_true rfl) (fun hPK hok => ?_)
  show G l (Rm 0) RX5 cX5_removeSwap 3 none _ 0 [some (vR (8, 0, 0)), some (vI (nI s)), none] [] (sa σ f)
  refine g_blk (pc' := 10) (loc' := [some (vR (8, 0, 0)), some (vI (nI s)), none]) (st' := [vI ((f 7) - (1 : Int32)), vI (7 : Int32), vR (9, 0, 0)]) (σ' := sa σ f) fl5_ok [(0, .aload_n 0), (1, .getfield 7), (4, .bipush 7), (6, .dup2), (7, .iaload), (8, .iconst 1), (9, .isub)] (by decide +kernel) rfl rfl ?_
  refine g_sst (k := 7) rfl (by omega) (by decide +kernel) ?_
  refine g_blk (pc' := 15) (loc' := [some (vR (8, 0, 0)), some (vI (nI s)), some (vI ((2 : Int32) * (nI s)))]) (st' := []) (σ' := sa σ (upd f 7 ((f 7) - (1 : Int32)))) fl5_ok [(11, .iconst 2), (12, .iload_n 1), (13, .imul), (14, .istore_n 2)] (by decide +kernel) rfl rfl ?_
  rw [hns, nI_pred, ix2]
  exact lp_X5_removeSwap l (by omega) (2 * m - 2 * s) (2 * s) _ (by omega) up_at rfl
set_option maxHeartbeats 2000000 in
theorem lp_X5_dropSwaps (l : Launch) {σ : Sg} {t : Int32} {P : (Nat → Int32) × Nat} : ∀ (k : Nat) (f : Nat → Int32) (ns : Nat), k ≤ ns → ns ≤ 6 → f 7 = nI ns → drM t k f ns = P → G l (Rm 1) RX5 cX5_dropSwaps 3 none (fun o σ' => o = none ∧ σ' = sa σ (P.1)) 10 [some (vR (8, 0, 0)), some (vI t), some (vI (nI k - 1))] [] (sa σ f) := by
  intro k
  induction k with
  | zero =>
    intro f ns hk h6 hns hd
    refine g_blk (pc' := 11) (loc' := [some (vR (8, 0, 0)), some (vI t), some (vI (nI 0 - 1))]) (st' := [vI (nI 0 - 1)]) (σ' := sa σ f) fl5_ok [(10, .iload_n 2)] (by decide +kernel) rfl rfl ?_
    refine g_if_lt (off := 34) (tgt := 45) (by decide +kernel) (by decide) (fun zc11 => ?_) (fun zc11 => ?_)
    · exact g_vret (by decide +kernel) ⟨rfl, by rw [← hd]; rfl⟩
    · exact absurd (by decide) zc11
  | succ k ih =>
    intro f ns hk h6 hns hd
    rw [nI_pred]
    refine g_blk (pc' := 11) (loc' := [some (vR (8, 0, 0)), some (vI t), some (vI (nI k))]) (st' := [vI (nI k)]) (σ' := sa σ f) fl5_ok [(10, .iload_n 2)] (by decide +kernel) rfl rfl ?_
    refine g_if_lt (off := 34) (tgt := 45) (by decide +kernel) (by decide) (fun zc11 => ?_) (fun zc11 => ?_)
    · exact absurd zc11 (nI_pos (by omega))
    · refine g_blk (pc' := 17) (loc' := [some (vR (8, 0, 0)), some (vI t), some (vI (nI k))]) (st' := [vI (0 : Int32), vI (nI k), vR (8, 0, 0)]) (σ' := sa σ f) fl5_ok [(14, .aload_n 0), (15, .iload_n 2), (16, .iconst 0)] (by decide +kernel) rfl rfl ?_
      refine g_callVp (8, 0, 0) [vI (nI k), vI (0 : Int32)] [] vl_RX5_96 mi_X5_ofSwap (c_X5_ofSwap l (r := k) (c := 0) rfl rfl (by omega) (by omega)) rfl rfl rfl rfl ⟨Nat.le_of_ble_eq_true rfl, Nat.le_of_ble_eq_true rfl⟩ rfl (Nat.le_of_ble_eq_true rfl) (by decide +kernel) ?_
      refine g_blk (pc' := 21) (loc' := [some (vR (8, 0, 0)), some (vI t), some (vI (nI k))]) (st' := [vI t, vI (mw f k 0)]) (σ' := sa σ f) fl5_ok [(20, .iload_n 1)] (by decide +kernel) rfl rfl ?_
      refine g_icmp_eq (off := 13) (tgt := 34) (by decide +kernel) (by decide) (fun zc21 => ?_) (fun zc21 => ?_)
      · refine g_blk (pc' := 36) (loc' := [some (vR (8, 0, 0)), some (vI t), some (vI (nI k))]) (st' := [vI (nI k), vR (8, 0, 0)]) (σ' := sa σ f) fl5_ok [(34, .aload_n 0), (35, .iload_n 2)] (by decide +kernel) rfl rfl ?_
        refine g_callV (8, 0, 0) [vI (nI k)] [] vl_RX5_99 mi_X5_removeSwap (c_X5_removeSwap l (s := k) (ns := ns) rfl hns (by omega) (by omega)) rfl rfl rfl rfl ⟨Nat.le_of_ble_eq_true rfl, Nat.le_of_ble_eq_true rfl⟩ rfl (Nat.le_of_ble_eq_true rfl) (by decide +kernel) (fun o σ1 hP => ?_)
        obtain ⟨rfl, rfl⟩ := hP
        refine g_blk (pc' := 10) (loc' := [some (vR (8, 0, 0)), some (vI t), some (vI ((nI k) + (-1 : Int32)))]) (st' := []) (σ' := sa σ (rmM f ns k)) fl5_ok [(39, .iinc 2 (-1)), (42, .goto (-32))] (by decide +kernel) rfl rfl ?_
        rw [drM, if_pos zc21] at hd
        rw [im1]
        exact ih _ (ns - 1) (by omega) (by omega) rmM_7 hd
      · refine g_blk (pc' := 27) (loc' := [some (vR (8, 0, 0)), some (vI t), some (vI (nI k))]) (st' := [vI (1 : Int32), vI (nI k), vR (8, 0, 0)]) (σ' := sa σ f) fl5_ok [(24, .aload_n 0), (25, .iload_n 2), (26, .iconst 1)] (by decide +kernel) rfl rfl ?_
        refine g_callVp (8, 0, 0) [vI (nI k), vI (1 : Int32)] [] vl_RX5_96 mi_X5_ofSwap (c_X5_ofSwap l (r := k) (c := 1) rfl rfl (by omega) (by omega)) rfl rfl rfl rfl ⟨Nat.le_of_ble_eq_true rfl, Nat.le_of_ble_eq_true rfl⟩ rfl (Nat.le_of_ble_eq_true rfl) (by decide +kernel) ?_
        refine g_blk (pc' := 31) (loc' := [some (vR (8, 0, 0)), some (vI t), some (vI (nI k))]) (st' := [vI t, vI (mw f k 1)]) (σ' := sa σ f) fl5_ok [(30, .iload_n 1)] (by decide +kernel) rfl rfl ?_
        refine g_icmp_ne (off := 8) (tgt := 39) (by decide +kernel) (by decide) (fun zc31 => ?_) (fun zc31 => ?_)
        · refine g_blk (pc' := 10) (loc' := [some (vR (8, 0, 0)), some (vI t), some (vI ((nI k) + (-1 : Int32)))]) (st' := []) (σ' := sa σ f) fl5_ok [(39, .iinc 2 (-1)), (42, .goto (-32))] (by decide +kernel) rfl rfl ?_
          rw [drM, if_neg zc21, if_pos zc31] at hd
          rw [im1]
          exact ih f ns (by omega) h6 hns hd
        · refine g_blk (pc' := 36) (loc' := [some (vR (8, 0, 0)), some (vI t), some (vI (nI k))]) (st' := [vI (nI k), vR (8, 0, 0)]) (σ' := sa σ f) fl5_ok [(34, .aload_n 0), (35, .iload_n 2)] (by decide +kernel) rfl rfl ?_
          refine g_callV (8, 0, 0) [vI (nI k)] [] vl_RX5_99 mi_X5_removeSwap (c_X5_removeSwap l (s := k) (ns := ns) rfl hns (by omega) (by omega)) rfl rfl rfl rfl ⟨Nat.le_of_ble_eq_true rfl, Nat.le_of_ble_eq_true rfl⟩ rfl (Nat.le_of_ble_eq_true rfl) (by decide +kernel) (fun o σ2 hP => ?_)
          obtain ⟨rfl, rfl⟩ := hP
          refine g_blk (pc' := 10) (loc' := [some (vR (8, 0, 0)), some (vI t), some (vI ((nI k) + (-1 : Int32)))]) (st' := []) (σ' := sa σ (rmM f ns k)) fl5_ok [(39, .iinc 2 (-1)), (42, .goto (-32))] (by decide +kernel) rfl rfl ?_
          rw [drM, if_neg zc21, if_neg (not_not_intro zc31)] at hd
          rw [im1]
          exact ih _ (ns - 1) (by omega) (by omega) rmM_7 hd
set_option maxHeartbeats 2000000 in
theorem c_X5_dropSwaps (l : Launch) {σ : Sg} {f : Nat → Int32} {ns : Nat} (t : Int32) (hns : f 7 = nI ns) (h6 : ns ≤ 6) : Con l 1 yX5_dropSwaps cX5_dropSwaps 3 none [vR (8, 0, 0), vI t] (sa σ f) (fun o σ' => o = none ∧ σ' = sa σ ((drM t ns f ns).1)) := by
  refine con_of pn_X5_dropSwaps (Nat.le_of_ble_eq_true rfl) (fun hPK hok => ?_)
  show G l (Rm 1) RX5 cX5_dropSwaps 3 none _ 0 [some (vR (8, 0, 0)), some (vI t), none] [] (sa σ f)
  refine g_blk (pc' := 10) (loc' := [some (vR (8, 0, 0)), some (vI t), some (vI ((f 7) - (1 : Int32)))]) (st' := []) (σ' := sa σ f) fl5_ok [(0, .aload_n 0), (1, .getfield 7), (4, .bipush 7), (6, .iaload), (7, .iconst 1), (8, .isub), (9, .istore_n 2)] (by decide +kernel) rfl rfl ?_
  rw [hns]
  exact lp_X5_dropSwaps l ns f ns (Nat.le_refl _) h6 hns rfl
set_option maxHeartbeats 2000000 in
theorem c_X5_finish (l : Launch) {σ : Sg} {f : Nat → Int32} {x : Int32} {t nt ns r a : Nat} (hx : x = nI t) (ht : t < 12) (hnt : f 3 = nI nt) (h12 : nt ≤ 12) (hns : f 7 = nI ns) (h6 : ns ≤ 6) (hkr : mk f t 1 = nI r) (hr : r < 8) (hka : mk f t 0 = nI a) (ha : a < 6) : Con l 2 yX5_finish cX5_finish 3 (some .int) [vR (8, 0, 0), vI x] (sa σ f) (fun o σ' => o = some (vI (mk (finM f nt ns t r a).1 t 2)) ∧ σ' = sa σ (finM f nt ns t r a).1) := by
  subst hx
  refine con_of pn_X5_finish (Nat.le_of_ble_eq_true rfl) (fun hPK hok => ?_)
  show G l (Rm 2) RX5 cX5_finish 3 (some .int) _ 0 [some (vR (8, 0, 0)), some (vI (nI t)), none] [] (sa σ f)
  refine g_blk (pc' := 3) (loc' := [some (vR (8, 0, 0)), some (vI (nI t)), none]) (st' := [vI (1 : Int32), vI (nI t), vR (8, 0, 0)]) (σ' := sa σ f) fl5_ok [(0, .aload_n 0), (1, .iload_n 1), (2, .iconst 1)] (by decide +kernel) rfl rfl ?_
  refine g_callVp (8, 0, 0) [vI (nI t), vI (1 : Int32)] [] vl_RX5_65 mi_X5_ofTask (c_X5_ofTask l (r := t) (c := 1) rfl rfl (by omega) (by omega)) rfl rfl rfl rfl ⟨Nat.le_of_ble_eq_true rfl, Nat.le_of_ble_eq_true rfl⟩ rfl (Nat.le_of_ble_eq_true rfl) (by decide +kernel) ?_
  refine g_blk (pc' := 11) (loc' := [some (vR (8, 0, 0)), some (vI (nI t)), some (vI (mk f t 1))]) (st' := [vI (1 : Int32), vI (3 : Int32), vI (nI t), vR (8, 0, 0)]) (σ' := sa σ f) fl5_ok [(6, .istore_n 2), (7, .aload_n 0), (8, .iload_n 1), (9, .iconst 3), (10, .iconst 1)] (by decide +kernel) rfl rfl ?_
  refine g_callV (8, 0, 0) [vI (nI t), vI (3 : Int32), vI (1 : Int32)] [] vl_RX5_68 mi_X5_layTask (c_X5_layTask l (r := t) (c := 3) (1 : Int32) rfl rfl (by omega) (by omega)) rfl rfl rfl rfl ⟨Nat.le_of_ble_eq_true rfl, Nat.le_of_ble_eq_true rfl⟩ rfl (Nat.le_of_ble_eq_true rfl) (by decide +kernel) (fun o σ1 hP => ?_)
  obtain ⟨rfl, rfl⟩ := hP
  refine g_blk (pc' := 20) (loc' := [some (vR (8, 0, 0)), some (vI (nI t)), some (vI (mk f t 1))]) (st' := [vI (1 : Int32), vI (mk f t 1), vR (8, 0, 0), vI (1 : Int32), vI (mk f t 1), vR (8, 0, 0)]) (σ' := sa σ (sk f t 3 (1 : Int32))) fl5_ok [(14, .aload_n 0), (15, .iload_n 2), (16, .iconst 1), (17, .aload_n 0), (18, .iload_n 2), (19, .iconst 1)] (by decide +kernel) rfl rfl ?_
  refine g_callVp (8, 0, 0) [vI (mk f t 1), vI (1 : Int32)] [vI (1 : Int32), vI (mk f t 1), vR (8, 0, 0)] vl_RX5_44 mi_X5_of (c_X5_of l (r := r) (c := 1) hkr rfl (by omega) (by omega)) rfl rfl rfl rfl ⟨Nat.le_of_ble_eq_true rfl, Nat.le_of_ble_eq_true rfl⟩ rfl (Nat.le_of_ble_eq_true rfl) (by decide +kernel) ?_
  refine g_blk (pc' := 26) (loc' := [some (vR (8, 0, 0)), some (vI (nI t)), some (vI (mk f t 1))]) (st' := [vI (2 : Int32), vI (nI t), vR (8, 0, 0), vI (mo (sk f t 3 (1 : Int32)) r 1), vI (1 : Int32), vI (mk f t 1), vR (8, 0, 0)]) (σ' := sa σ (sk f t 3 (1 : Int32))) fl5_ok [(23, .aload_n 0), (24, .iload_n 1), (25, .iconst 2)] (by decide +kernel) rfl rfl ?_
  refine g_callVp (8, 0, 0) [vI (nI t), vI (2 : Int32)] [vI (mo (sk f t 3 (1 : Int32)) r 1), vI (1 : Int32), vI (mk f t 1), vR (8, 0, 0)] vl_RX5_65 mi_X5_ofTask (c_X5_ofTask l (r := t) (c := 2) rfl rfl (by omega) (by omega)) rfl rfl rfl rfl ⟨Nat.le_of_ble_eq_true rfl, Nat.le_of_ble_eq_true rfl⟩ rfl (Nat.le_of_ble_eq_true rfl) (by decide +kernel) ?_
  refine g_blk (pc' := 30) (loc' := [some (vR (8, 0, 0)), some (vI (nI t)), some (vI (mk f t 1))]) (st' := [vI ((mo (sk f t 3 (1 : Int32)) r 1) + (mk (sk f t 3 (1 : Int32)) t 2)), vI (1 : Int32), vI (mk f t 1), vR (8, 0, 0)]) (σ' := sa σ (sk f t 3 (1 : Int32))) fl5_ok [(29, .iadd)] (by decide +kernel) rfl rfl ?_
  refine g_callV (8, 0, 0) [vI (mk f t 1), vI (1 : Int32), vI ((mo (sk f t 3 (1 : Int32)) r 1) + (mk (sk f t 3 (1 : Int32)) t 2))] [] vl_RX5_36 mi_X5_lay (c_X5_lay l (r := r) (c := 1) ((mo (sk f t 3 (1 : Int32)) r 1) + (mk (sk f t 3 (1 : Int32)) t 2)) hkr rfl (by omega) (by omega)) rfl rfl rfl rfl ⟨Nat.le_of_ble_eq_true rfl, Nat.le_of_ble_eq_true rfl⟩ rfl (Nat.le_of_ble_eq_true rfl) (by decide +kernel) (fun o σ2 hP => ?_)
  obtain ⟨rfl, rfl⟩ := hP
  refine g_blk (pc' := 35) (loc' := [some (vR (8, 0, 0)), some (vI (nI t)), some (vI (mk f t 1))]) (st' := [vI (nI t), vR (8, 0, 0)]) (σ' := sa σ (so (sk f t 3 (1 : Int32)) r 1 ((mo (sk f t 3 (1 : Int32)) r 1) + (mk (sk f t 3 (1 : Int32)) t 2)))) fl5_ok [(33, .aload_n 0), (34, .iload_n 1)] (by decide +kernel) rfl rfl ?_
  refine g_callVp (8, 0, 0) [vI (nI t)] [] vl_RX5_103 mi_X5_isLastOf (c_X5_isLastOf l (t := t) rfl (by omega) (by simp (disch := decide) only [so_lo, sA_lo, sk_lo, cleanM_lo, rmM_lo, drM_lo, addM_lo]; exact hnt) (by omega)) rfl rfl rfl rfl ⟨Nat.le_of_ble_eq_true rfl, Nat.le_of_ble_eq_true rfl⟩ rfl (Nat.le_of_ble_eq_true rfl) (by decide +kernel) ?_
  refine g_if_eq (off := 13) (tgt := 51) (by decide +kernel) (by decide) (fun zc38 => ?_) (fun zc38 => ?_)
  · refine g_blk (pc' := 53) (loc' := [some (vR (8, 0, 0)), some (vI (nI t)), some (vI (mk f t 1))]) (st' := [vI (nI t), vR (8, 0, 0)]) (σ' := sa σ (so (sk f t 3 (1 : Int32)) r 1 ((mo (sk f t 3 (1 : Int32)) r 1) + (mk (sk f t 3 (1 : Int32)) t 2)))) fl5_ok [(51, .aload_n 0), (52, .iload_n 1)] (by decide +kernel) rfl rfl ?_
    refine g_callV (8, 0, 0) [vI (nI t)] [] vl_RX5_109 mi_X5_dropSwaps (c_X5_dropSwaps l (ns := ns) (nI t) (by simp (disch := decide) only [so_lo, sA_lo, sk_lo, cleanM_lo, rmM_lo, drM_lo, addM_lo]; exact hns) (by omega)) rfl rfl rfl rfl ⟨Nat.le_of_ble_eq_true rfl, Nat.le_of_ble_eq_true rfl⟩ rfl (Nat.le_of_ble_eq_true rfl) (by decide +kernel) (fun o σ3 hP => ?_)
    obtain ⟨rfl, rfl⟩ := hP
    refine g_blk (pc' := 65) (loc' := [some (vR (8, 0, 0)), some (vI (nI t)), some (vI (mk f t 1))]) (st' := [vI ((((drM (nI t) ns (so (sk f t 3 (1 : Int32)) r 1 ((mo (sk f t 3 (1 : Int32)) r 1) + (mk (sk f t 3 (1 : Int32)) t 2))) ns).1) 5) + (1 : Int32)), vI (5 : Int32), vR (9, 0, 0)]) (σ' := sa σ ((drM (nI t) ns (so (sk f t 3 (1 : Int32)) r 1 ((mo (sk f t 3 (1 : Int32)) r 1) + (mk (sk f t 3 (1 : Int32)) t 2))) ns).1)) fl5_ok [(56, .aload_n 0), (57, .getfield 7), (60, .iconst 5), (61, .dup2), (62, .iaload), (63, .iconst 1), (64, .iadd)] (by decide +kernel) rfl rfl ?_
    refine g_sst (k := 5) rfl (by omega) (by decide +kernel) ?_
    refine g_blk (pc' := 69) (loc' := [some (vR (8, 0, 0)), some (vI (nI t)), some (vI (mk f t 1))]) (st' := [vI (2 : Int32), vI (nI t), vR (8, 0, 0)]) (σ' := sa σ (upd ((drM (nI t) ns (so (sk f t 3 (1 : Int32)) r 1 ((mo (sk f t 3 (1 : Int32)) r 1) + (mk (sk f t 3 (1 : Int32)) t 2))) ns).1) 5 ((((drM (nI t) ns (so (sk f t 3 (1 : Int32)) r 1 ((mo (sk f t 3 (1 : Int32)) r 1) + (mk (sk f t 3 (1 : Int32)) t 2))) ns).1) 5) + (1 : Int32)))) fl5_ok [(66, .aload_n 0), (67, .iload_n 1), (68, .iconst 2)] (by decide +kernel) rfl rfl ?_
    refine g_callVp (8, 0, 0) [vI (nI t), vI (2 : Int32)] [] vl_RX5_65 mi_X5_ofTask (c_X5_ofTask l (r := t) (c := 2) rfl rfl (by omega) (by omega)) rfl rfl rfl rfl ⟨Nat.le_of_ble_eq_true rfl, Nat.le_of_ble_eq_true rfl⟩ rfl (Nat.le_of_ble_eq_true rfl) (by decide +kernel) ?_
    have hfin : (upd ((drM (nI t) ns (so (sk f t 3 (1 : Int32)) r 1 ((mo (sk f t 3 (1 : Int32)) r 1) + (mk (sk f t 3 (1 : Int32)) t 2))) ns).1) 5 ((((drM (nI t) ns (so (sk f t 3 (1 : Int32)) r 1 ((mo (sk f t 3 (1 : Int32)) r 1) + (mk (sk f t 3 (1 : Int32)) t 2))) ns).1) 5) + (1 : Int32))) = (finM f nt ns t r a).1 := by unfold finM; simp only; rw [if_pos zc38]
    rw [hfin]
    exact g_iret (by decide +kernel) ⟨rfl, rfl⟩
  · refine g_blk (pc' := 45) (loc' := [some (vR (8, 0, 0)), some (vI (nI t)), some (vI (mk f t 1))]) (st' := [vI (0 : Int32), vI (nI t), vR (8, 0, 0), vR (8, 0, 0)]) (σ' := sa σ (so (sk f t 3 (1 : Int32)) r 1 ((mo (sk f t 3 (1 : Int32)) r 1) + (mk (sk f t 3 (1 : Int32)) t 2)))) fl5_ok [(41, .aload_n 0), (42, .aload_n 0), (43, .iload_n 1), (44, .iconst 0)] (by decide +kernel) rfl rfl ?_
    refine g_callVp (8, 0, 0) [vI (nI t), vI (0 : Int32)] [vR (8, 0, 0)] vl_RX5_65 mi_X5_ofTask (c_X5_ofTask l (r := t) (c := 0) rfl rfl (by omega) (by omega)) rfl rfl rfl rfl ⟨Nat.le_of_ble_eq_true rfl, Nat.le_of_ble_eq_true rfl⟩ rfl (Nat.le_of_ble_eq_true rfl) (by decide +kernel) ?_
    have ha2 : mk (so (sk f t 3 (1 : Int32)) r 1 ((mo (sk f t 3 (1 : Int32)) r 1) + (mk (sk f t 3 (1 : Int32)) t 2))) t 0 = nI a := by rw [mk_so (by omega) (by decide), mk_sk_ne (by decide) (by decide) (by omega)]; exact hka
    refine g_callV (8, 0, 0) [vI (mk (so (sk f t 3 (1 : Int32)) r 1 ((mo (sk f t 3 (1 : Int32)) r 1) + (mk (sk f t 3 (1 : Int32)) t 2))) t 0)] [] vl_RX5_106 mi_X5_clean (c_X5_clean l (a := a) ha2 (by omega)) rfl rfl rfl rfl ⟨Nat.le_of_ble_eq_true rfl, Nat.le_of_ble_eq_true rfl⟩ rfl (Nat.le_of_ble_eq_true rfl) (by decide +kernel) (fun o σ4 hP => ?_)
    obtain ⟨rfl, rfl⟩ := hP
    refine g_blk (pc' := 53) (loc' := [some (vR (8, 0, 0)), some (vI (nI t)), some (vI (mk f t 1))]) (st' := [vI (nI t), vR (8, 0, 0)]) (σ' := sa σ (cleanM (so (sk f t 3 (1 : Int32)) r 1 ((mo (sk f t 3 (1 : Int32)) r 1) + (mk (sk f t 3 (1 : Int32)) t 2))) a)) fl5_ok [(51, .aload_n 0), (52, .iload_n 1)] (by decide +kernel) rfl rfl ?_
    refine g_callV (8, 0, 0) [vI (nI t)] [] vl_RX5_109 mi_X5_dropSwaps (c_X5_dropSwaps l (ns := ns) (nI t) (by simp (disch := decide) only [so_lo, sA_lo, sk_lo, cleanM_lo, rmM_lo, drM_lo, addM_lo]; exact hns) (by omega)) rfl rfl rfl rfl ⟨Nat.le_of_ble_eq_true rfl, Nat.le_of_ble_eq_true rfl⟩ rfl (Nat.le_of_ble_eq_true rfl) (by decide +kernel) (fun o σ5 hP => ?_)
    obtain ⟨rfl, rfl⟩ := hP
    refine g_blk (pc' := 65) (loc' := [some (vR (8, 0, 0)), some (vI (nI t)), some (vI (mk f t 1))]) (st' := [vI ((((drM (nI t) ns (cleanM (so (sk f t 3 (1 : Int32)) r 1 ((mo (sk f t 3 (1 : Int32)) r 1) + (mk (sk f t 3 (1 : Int32)) t 2))) a) ns).1) 5) + (1 : Int32)), vI (5 : Int32), vR (9, 0, 0)]) (σ' := sa σ ((drM (nI t) ns (cleanM (so (sk f t 3 (1 : Int32)) r 1 ((mo (sk f t 3 (1 : Int32)) r 1) + (mk (sk f t 3 (1 : Int32)) t 2))) a) ns).1)) fl5_ok [(56, .aload_n 0), (57, .getfield 7), (60, .iconst 5), (61, .dup2), (62, .iaload), (63, .iconst 1), (64, .iadd)] (by decide +kernel) rfl rfl ?_
    refine g_sst (k := 5) rfl (by omega) (by decide +kernel) ?_
    refine g_blk (pc' := 69) (loc' := [some (vR (8, 0, 0)), some (vI (nI t)), some (vI (mk f t 1))]) (st' := [vI (2 : Int32), vI (nI t), vR (8, 0, 0)]) (σ' := sa σ (upd ((drM (nI t) ns (cleanM (so (sk f t 3 (1 : Int32)) r 1 ((mo (sk f t 3 (1 : Int32)) r 1) + (mk (sk f t 3 (1 : Int32)) t 2))) a) ns).1) 5 ((((drM (nI t) ns (cleanM (so (sk f t 3 (1 : Int32)) r 1 ((mo (sk f t 3 (1 : Int32)) r 1) + (mk (sk f t 3 (1 : Int32)) t 2))) a) ns).1) 5) + (1 : Int32)))) fl5_ok [(66, .aload_n 0), (67, .iload_n 1), (68, .iconst 2)] (by decide +kernel) rfl rfl ?_
    refine g_callVp (8, 0, 0) [vI (nI t), vI (2 : Int32)] [] vl_RX5_65 mi_X5_ofTask (c_X5_ofTask l (r := t) (c := 2) rfl rfl (by omega) (by omega)) rfl rfl rfl rfl ⟨Nat.le_of_ble_eq_true rfl, Nat.le_of_ble_eq_true rfl⟩ rfl (Nat.le_of_ble_eq_true rfl) (by decide +kernel) ?_
    have hfin : (upd ((drM (nI t) ns (cleanM (so (sk f t 3 (1 : Int32)) r 1 ((mo (sk f t 3 (1 : Int32)) r 1) + (mk (sk f t 3 (1 : Int32)) t 2))) a) ns).1) 5 ((((drM (nI t) ns (cleanM (so (sk f t 3 (1 : Int32)) r 1 ((mo (sk f t 3 (1 : Int32)) r 1) + (mk (sk f t 3 (1 : Int32)) t 2))) a) ns).1) 5) + (1 : Int32))) = (finM f nt ns t r a).1 := by unfold finM; simp only; rw [if_neg zc38]
    rw [hfin]
    exact g_iret (by decide +kernel) ⟨rfl, rfl⟩
set_option maxHeartbeats 2000000 in
theorem lp_X5_end3 (l : Launch) {σ : Sg} {n : Int32} {na : Nat} {F : Nat → Int32} (h6 : na ≤ 6) : ∀ (k a : Nat) (f : Nat → Int32), a + k = na → f 2 = nI na → gwF k a f = F → G l (Rm 1) RX5 cX5_makeEnd 4 (some .int) (fun o σ' => o = some (vI n) ∧ σ' = sa σ (upd (upd F 0 (F 0 + 1)) 4 0)) 146 [some (vR (8, 0, 0)), some (vI n), some (vI (nI a)), none] [] (sa σ f) := by
  intro k
  induction k with
  | zero =>
    intro a f hk h2 hd
    refine g_blk (pc' := 153) (loc' := [some (vR (8, 0, 0)), some (vI n), some (vI (nI a)), none]) (st' := [vI (f 2), vI (nI a)]) (σ' := sa σ f) fl5_ok [(146, .iload_n 2), (147, .aload_n 0), (148, .getfield 7), (151, .iconst 2), (152, .iaload)] (by decide +kernel) rfl rfl ?_
    refine g_icmp_ge (off := 43) (tgt := 196) (by decide +kernel) (by decide) (fun zc153 => ?_) (fun zc153 => ?_)
    · rw [h2, nI_leI (by omega) (by omega)] at zc153
      refine g_blk (pc' := 205) (loc' := [some (vR (8, 0, 0)), some (vI n), some (vI (nI a)), none]) (st' := [vI ((f 0) + (1 : Int32)), vI (0 : Int32), vR (9, 0, 0)]) (σ' := sa σ f) fl5_ok [(196, .aload_n 0), (197, .getfield 7), (200, .iconst 0), (201, .dup2), (202, .iaload), (203, .iconst 1), (204, .iadd)] (by decide +kernel) rfl rfl ?_
      refine g_sst (k := 0) rfl (by omega) (by decide +kernel) ?_
      refine g_blk (pc' := 212) (loc' := [some (vR (8, 0, 0)), some (vI n), some (vI (nI a)), none]) (st' := [vI (0 : Int32), vI (4 : Int32), vR (9, 0, 0)]) (σ' := sa σ (upd f 0 ((f 0) + (1 : Int32)))) fl5_ok [(206, .aload_n 0), (207, .getfield 7), (210, .iconst 4), (211, .iconst 0)] (by decide +kernel) rfl rfl ?_
      refine g_sst (k := 4) rfl (by omega) (by decide +kernel) ?_
      refine g_blk (pc' := 214) (loc' := [some (vR (8, 0, 0)), some (vI n), some (vI (nI a)), none]) (st' := [vI n]) (σ' := sa σ (upd (upd f 0 ((f 0) + (1 : Int32))) 4 (0 : Int32))) fl5_ok [(213, .iload_n 1)] (by decide +kernel) rfl rfl ?_
      have hd : f = F := hd
      subst hd
      exact g_iret (by decide +kernel) ⟨rfl, rfl⟩
    · rw [h2, nI_leI (by omega) (by omega)] at zc153
      exact absurd (by omega) zc153
  | succ k ih =>
    intro a f hk h2 hd
    refine g_blk (pc' := 153) (loc' := [some (vR (8, 0, 0)), some (vI n), some (vI (nI a)), none]) (st' := [vI (f 2), vI (nI a)]) (σ' := sa σ f) fl5_ok [(146, .iload_n 2), (147, .aload_n 0), (148, .getfield 7), (151, .iconst 2), (152, .iaload)] (by decide +kernel) rfl rfl ?_
    refine g_icmp_ge (off := 43) (tgt := 196) (by decide +kernel) (by decide) (fun zc153 => ?_) (fun zc153 => ?_)
    · rw [h2, nI_leI (by omega) (by omega)] at zc153
      exact absurd zc153 (by omega)
    · rw [h2, nI_leI (by omega) (by omega)] at zc153
      refine g_blk (pc' := 159) (loc' := [some (vR (8, 0, 0)), some (vI n), some (vI (nI a)), none]) (st' := [vI (3 : Int32), vI (nI a), vR (8, 0, 0)]) (σ' := sa σ f) fl5_ok [(156, .aload_n 0), (157, .iload_n 2), (158, .iconst 3)] (by decide +kernel) rfl rfl ?_
      refine g_callVp (8, 0, 0) [vI (nI a), vI (3 : Int32)] [] vl_RX5_62 mi_X5_ofArea (c_X5_ofArea l (r := a) (c := 3) rfl rfl (by omega) (by omega)) rfl rfl rfl rfl ⟨Nat.le_of_ble_eq_true rfl, Nat.le_of_ble_eq_true rfl⟩ rfl (Nat.le_of_ble_eq_true rfl) (by decide +kernel) ?_
      refine g_blk (pc' := 165) (loc' := [some (vR (8, 0, 0)), some (vI n), some (vI (nI a)), none]) (st' := [vI (2 : Int32), vI (nI a), vR (8, 0, 0), vI (ma f a 3)]) (σ' := sa σ f) fl5_ok [(162, .aload_n 0), (163, .iload_n 2), (164, .iconst 2)] (by decide +kernel) rfl rfl ?_
      refine g_callVp (8, 0, 0) [vI (nI a), vI (2 : Int32)] [vI (ma f a 3)] vl_RX5_62 mi_X5_ofArea (c_X5_ofArea l (r := a) (c := 2) rfl rfl (by omega) (by omega)) rfl rfl rfl rfl ⟨Nat.le_of_ble_eq_true rfl, Nat.le_of_ble_eq_true rfl⟩ rfl (Nat.le_of_ble_eq_true rfl) (by decide +kernel) ?_
      refine g_blk (pc' := 177) (loc' := [some (vR (8, 0, 0)), some (vI n), some (vI (nI a)), some (vI ((ma f a 3) + (ma f a 2)))]) (st' := [vI (1000 : Int32), vI ((ma f a 3) + (ma f a 2)), vI (3 : Int32), vI (nI a), vR (8, 0, 0)]) (σ' := sa σ f) fl5_ok [(168, .iadd), (169, .istore_n 3), (170, .aload_n 0), (171, .iload_n 2), (172, .iconst 3), (173, .iload_n 3), (174, .sipush 1000)] (by decide +kernel) rfl rfl ?_
      refine g_icmp_le (off := 9) (tgt := 186) (by decide +kernel) (by decide) (fun zc177 => ?_) (fun zc177 => ?_)
      · refine g_blk (pc' := 187) (loc' := [some (vR (8, 0, 0)), some (vI n), some (vI (nI a)), some (vI ((ma f a 3) + (ma f a 2)))]) (st' := [vI ((ma f a 3) + (ma f a 2)), vI (3 : Int32), vI (nI a), vR (8, 0, 0)]) (σ' := sa σ f) fl5_ok [(186, .iload_n 3)] (by decide +kernel) rfl rfl ?_
        refine g_callV (8, 0, 0) [vI (nI a), vI (3 : Int32), vI ((ma f a 3) + (ma f a 2))] [] vl_RX5_51 mi_X5_layArea (c_X5_layArea l (r := a) (c := 3) ((ma f a 3) + (ma f a 2)) rfl rfl (by omega) (by omega)) rfl rfl rfl rfl ⟨Nat.le_of_ble_eq_true rfl, Nat.le_of_ble_eq_true rfl⟩ rfl (Nat.le_of_ble_eq_true rfl) (by decide +kernel) (fun o σ1 hP => ?_)
        obtain ⟨rfl, rfl⟩ := hP
        refine g_blk (pc' := 146) (loc' := [some (vR (8, 0, 0)), some (vI n), some (vI ((nI a) + (1 : Int32))), some (vI ((ma f a 3) + (ma f a 2)))]) (st' := []) (σ' := sa σ (sA f a 3 ((ma f a 3) + (ma f a 2)))) fl5_ok [(190, .iinc 2 1), (193, .goto (-47))] (by decide +kernel) rfl rfl ?_
        rw [gwF, if_pos zc177] at hd
        rw [nI_1]
        exact g_sub (loc' := [some (vR (8, 0, 0)), some (vI n), some (vI (nI (a + 1))), none]) ⟨Or.inr rfl, Or.inr rfl, Or.inr rfl, Or.inl rfl, trivial⟩ (ih (a + 1) _ (by omega) (by rw [sA_lo (by decide)]; exact h2) hd)
      · refine g_blk (pc' := 187) (loc' := [some (vR (8, 0, 0)), some (vI n), some (vI (nI a)), some (vI ((ma f a 3) + (ma f a 2)))]) (st' := [vI (1000 : Int32), vI (3 : Int32), vI (nI a), vR (8, 0, 0)]) (σ' := sa σ f) fl5_ok [(180, .sipush 1000), (183, .goto 4)] (by decide +kernel) rfl rfl ?_
        refine g_callV (8, 0, 0) [vI (nI a), vI (3 : Int32), vI (1000 : Int32)] [] vl_RX5_51 mi_X5_layArea (c_X5_layArea l (r := a) (c := 3) (1000 : Int32) rfl rfl (by omega) (by omega)) rfl rfl rfl rfl ⟨Nat.le_of_ble_eq_true rfl, Nat.le_of_ble_eq_true rfl⟩ rfl (Nat.le_of_ble_eq_true rfl) (by decide +kernel) (fun o σ2 hP => ?_)
        obtain ⟨rfl, rfl⟩ := hP
        refine g_blk (pc' := 146) (loc' := [some (vR (8, 0, 0)), some (vI n), some (vI ((nI a) + (1 : Int32))), some (vI ((ma f a 3) + (ma f a 2)))]) (st' := []) (σ' := sa σ (sA f a 3 (1000 : Int32))) fl5_ok [(190, .iinc 2 1), (193, .goto (-47))] (by decide +kernel) rfl rfl ?_
        rw [gwF, if_neg zc177] at hd
        rw [nI_1]
        exact g_sub (loc' := [some (vR (8, 0, 0)), some (vI n), some (vI (nI (a + 1))), none]) ⟨Or.inr rfl, Or.inr rfl, Or.inr rfl, Or.inl rfl, trivial⟩ (ih (a + 1) _ (by omega) (by rw [sA_lo (by decide)]; exact h2) hd)
set_option maxHeartbeats 2000000 in
theorem lp_X5_end2 (l : Launch) {σ : Sg} {n : Int32} {nr na : Nat} {F : Nat → Int32} (h8 : nr ≤ 8) (h6 : na ≤ 6) : ∀ (k r : Nat) (f : Nat → Int32), r + k = nr → f 1 = nI nr → f 2 = nI na → dcF k r f = F → G l (Rm 1) RX5 cX5_makeEnd 4 (some .int) (fun o σ' => o = some (vI n) ∧ σ' = sa σ (upd (upd (gwF na 0 F) 0 ((gwF na 0 F) 0 + 1)) 4 0)) 104 [some (vR (8, 0, 0)), some (vI n), some (vI (nI r)), none] [] (sa σ f) := by
  intro k
  induction k with
  | zero =>
    intro r f hk h1 h2 hd
    refine g_blk (pc' := 111) (loc' := [some (vR (8, 0, 0)), some (vI n), some (vI (nI r)), none]) (st' := [vI (f 1), vI (nI r)]) (σ' := sa σ f) fl5_ok [(104, .iload_n 2), (105, .aload_n 0), (106, .getfield 7), (109, .iconst 1), (110, .iaload)] (by decide +kernel) rfl rfl ?_
    refine g_icmp_ge (off := 33) (tgt := 144) (by decide +kernel) (by decide) (fun zc111 => ?_) (fun zc111 => ?_)
    · rw [h1, nI_leI (by omega) (by omega)] at zc111
      refine g_blk (pc' := 146) (loc' := [some (vR (8, 0, 0)), some (vI n), some (vI (0 : Int32)), none]) (st' := []) (σ' := sa σ f) fl5_ok [(144, .iconst 0), (145, .istore_n 2)] (by decide +kernel) rfl rfl ?_
      have hd : f = F := hd
      subst hd
      exact lp_X5_end3 l h6 na 0 f (by omega) h2 rfl
    · rw [h1, nI_leI (by omega) (by omega)] at zc111
      exact absurd (by omega) zc111
  | succ k ih =>
    intro r f hk h1 h2 hd
    refine g_blk (pc' := 111) (loc' := [some (vR (8, 0, 0)), some (vI n), some (vI (nI r)), none]) (st' := [vI (f 1), vI (nI r)]) (σ' := sa σ f) fl5_ok [(104, .iload_n 2), (105, .aload_n 0), (106, .getfield 7), (109, .iconst 1), (110, .iaload)] (by decide +kernel) rfl rfl ?_
    refine g_icmp_ge (off := 33) (tgt := 144) (by decide +kernel) (by decide) (fun zc111 => ?_) (fun zc111 => ?_)
    · rw [h1, nI_leI (by omega) (by omega)] at zc111
      exact absurd zc111 (by omega)
    · rw [h1, nI_leI (by omega) (by omega)] at zc111
      refine g_blk (pc' := 120) (loc' := [some (vR (8, 0, 0)), some (vI n), some (vI (nI r)), none]) (st' := [vI (3 : Int32), vI (nI r), vR (8, 0, 0), vI (3 : Int32), vI (nI r), vR (8, 0, 0)]) (σ' := sa σ f) fl5_ok [(114, .aload_n 0), (115, .iload_n 2), (116, .iconst 3), (117, .aload_n 0), (118, .iload_n 2), (119, .iconst 3)] (by decide +kernel) rfl rfl ?_
      refine g_callVp (8, 0, 0) [vI (nI r), vI (3 : Int32)] [vI (3 : Int32), vI (nI r), vR (8, 0, 0)] vl_RX5_44 mi_X5_of (c_X5_of l (r := r) (c := 3) rfl rfl (by omega) (by omega)) rfl rfl rfl rfl ⟨Nat.le_of_ble_eq_true rfl, Nat.le_of_ble_eq_true rfl⟩ rfl (Nat.le_of_ble_eq_true rfl) (by decide +kernel) ?_
      refine g_blk (pc' := 127) (loc' := [some (vR (8, 0, 0)), some (vI n), some (vI (nI r)), none]) (st' := [vI (1 : Int32), vR (8, 0, 0), vI (100 : Int32), vI (mo f r 3), vI (3 : Int32), vI (nI r), vR (8, 0, 0)]) (σ' := sa σ f) fl5_ok [(123, .bipush 100), (125, .aload_n 0), (126, .iconst 1)] (by decide +kernel) rfl rfl ?_
      refine g_callVp (8, 0, 0) [vI (1 : Int32)] [vI (100 : Int32), vI (mo f r 3), vI (3 : Int32), vI (nI r), vR (8, 0, 0)] vl_RX5_58 mi_X5_setting (c_X5_setting l (c := 1) rfl (by omega)) rfl rfl rfl rfl ⟨Nat.le_of_ble_eq_true rfl, Nat.le_of_ble_eq_true rfl⟩ rfl (Nat.le_of_ble_eq_true rfl) (by decide +kernel) ?_
      refine g_blk (pc' := 134) (loc' := [some (vR (8, 0, 0)), some (vI n), some (vI (nI r)), none]) (st' := [vI (100 : Int32), vI ((mo f r 3) * ((100 : Int32) - (f 9))), vI (3 : Int32), vI (nI r), vR (8, 0, 0)]) (σ' := sa σ f) fl5_ok [(130, .isub), (131, .imul), (132, .bipush 100)] (by decide +kernel) rfl rfl ?_
      refine g_idiv (hy := by decide) (hd := by decide +kernel) (k := ?_)
      refine g_callV (8, 0, 0) [vI (nI r), vI (3 : Int32), vI (((mo f r 3) * ((100 : Int32) - (f 9))) / (100 : Int32))] [] vl_RX5_36 mi_X5_lay (c_X5_lay l (r := r) (c := 3) (((mo f r 3) * ((100 : Int32) - (f 9))) / (100 : Int32)) rfl rfl (by omega) (by omega)) rfl rfl rfl rfl ⟨Nat.le_of_ble_eq_true rfl, Nat.le_of_ble_eq_true rfl⟩ rfl (Nat.le_of_ble_eq_true rfl) (by decide +kernel) (fun o σ1 hP => ?_)
      obtain ⟨rfl, rfl⟩ := hP
      refine g_blk (pc' := 104) (loc' := [some (vR (8, 0, 0)), some (vI n), some (vI ((nI r) + (1 : Int32))), none]) (st' := []) (σ' := sa σ (so f r 3 (((mo f r 3) * ((100 : Int32) - (f 9))) / (100 : Int32)))) fl5_ok [(138, .iinc 2 1), (141, .goto (-37))] (by decide +kernel) rfl rfl ?_
      rw [dcF] at hd
      rw [nI_1]
      exact ih (r + 1) _ (by omega) (by rw [so_lo (by decide)]; exact h1) (by rw [so_lo (by decide)]; exact h2) hd
theorem skM_mk {f : Nat → Int32} {t r j c : Nat} (hr : r < 8) : mk (skM f t r) j c = mk f j c := by rw [skM, mk_so hr (by decide), mk_so hr (by decide)]
set_option maxHeartbeats 2000000 in
theorem lp_X5_end1 (l : Launch) {σ : Sg} {nr na nt : Nat} {who : Nat → Nat} {Q : (Nat → Int32) × Int32} (h8 : nr ≤ 8) (h6 : na ≤ 6) (h12 : nt ≤ 12) : ∀ (k t : Nat) (f : Nat → Int32) (n : Int32), t + k = nt → f 1 = nI nr → f 2 = nI na → f 3 = nI nt → (∀ j, j < nt → mk f j 3 = 0 → mk f j 1 = nI (who j) ∧ who j < 8) → skF who k t f n = Q → G l (Rm 1) RX5 cX5_makeEnd 4 (some .int) (fun o σ' => o = some (vI Q.2) ∧ σ' = sa σ (upd (upd (gwF na 0 (dcF nr 0 (upd (upd (upd Q.1 6 (Q.1 6 + Q.2)) 3 0) 7 0))) 0 ((gwF na 0 (dcF nr 0 (upd (upd (upd Q.1 6 (Q.1 6 + Q.2)) 3 0) 7 0))) 0 + 1)) 4 0)) 4 [some (vR (8, 0, 0)), some (vI n), some (vI (nI t)), none] [] (sa σ f) := by
  intro k
  induction k with
  | zero =>
    intro t f n hk h1 h2 h3 hw hd
    refine g_blk (pc' := 11) (loc' := [some (vR (8, 0, 0)), some (vI n), some (vI (nI t)), none]) (st' := [vI (f 3), vI (nI t)]) (σ' := sa σ f) fl5_ok [(4, .iload_n 2), (5, .aload_n 0), (6, .getfield 7), (9, .iconst 3), (10, .iaload)] (by decide +kernel) rfl rfl ?_
    refine g_icmp_ge (off := 65) (tgt := 76) (by decide +kernel) (by decide) (fun zc11 => ?_) (fun zc11 => ?_)
    · rw [h3, nI_leI (by omega) (by omega)] at zc11
      refine g_blk (pc' := 86) (loc' := [some (vR (8, 0, 0)), some (vI n), some (vI (nI t)), none]) (st' := [vI ((f 6) + n), vI (6 : Int32), vR (9, 0, 0)]) (σ' := sa σ f) fl5_ok [(76, .aload_n 0), (77, .getfield 7), (80, .bipush 6), (82, .dup2), (83, .iaload), (84, .iload_n 1), (85, .iadd)] (by decide +kernel) rfl rfl ?_
      refine g_sst (k := 6) rfl (by omega) (by decide +kernel) ?_
      refine g_blk (pc' := 93) (loc' := [some (vR (8, 0, 0)), some (vI n), some (vI (nI t)), none]) (st' := [vI (0 : Int32), vI (3 : Int32), vR (9, 0, 0)]) (σ' := sa σ (upd f 6 ((f 6) + n))) fl5_ok [(87, .aload_n 0), (88, .getfield 7), (91, .iconst 3), (92, .iconst 0)] (by decide +kernel) rfl rfl ?_
      refine g_sst (k := 3) rfl (by omega) (by decide +kernel) ?_
      refine g_blk (pc' := 101) (loc' := [some (vR (8, 0, 0)), some (vI n), some (vI (nI t)), none]) (st' := [vI (0 : Int32), vI (7 : Int32), vR (9, 0, 0)]) (σ' := sa σ (upd (upd f 6 ((f 6) + n)) 3 (0 : Int32))) fl5_ok [(94, .aload_n 0), (95, .getfield 7), (98, .bipush 7), (100, .iconst 0)] (by decide +kernel) rfl rfl ?_
      refine g_sst (k := 7) rfl (by omega) (by decide +kernel) ?_
      refine g_blk (pc' := 104) (loc' := [some (vR (8, 0, 0)), some (vI n), some (vI (0 : Int32)), none]) (st' := []) (σ' := sa σ (upd (upd (upd f 6 ((f 6) + n)) 3 (0 : Int32)) 7 (0 : Int32))) fl5_ok [(102, .iconst 0), (103, .istore_n 2)] (by decide +kernel) rfl rfl ?_
      have hd : (f, n) = Q := hd
      subst hd
      exact g_sub (loc' := [some (vR (8, 0, 0)), some (vI n), some (vI (nI 0)), none]) ⟨Or.inr rfl, Or.inr rfl, Or.inr rfl, Or.inl rfl, trivial⟩ (lp_X5_end2 l h8 h6 nr 0 _ (by omega) (by rw [up_ne (by decide), up_ne (by decide), up_ne (by decide)]; exact h1) (by rw [up_ne (by decide), up_ne (by decide), up_ne (by decide)]; exact h2) rfl)
    · rw [h3, nI_leI (by omega) (by omega)] at zc11
      exact absurd (by omega) zc11
  | succ k ih =>
    intro t f n hk h1 h2 h3 hw hd
    refine g_blk (pc' := 11) (loc' := [some (vR (8, 0, 0)), some (vI n), some (vI (nI t)), none]) (st' := [vI (f 3), vI (nI t)]) (σ' := sa σ f) fl5_ok [(4, .iload_n 2), (5, .aload_n 0), (6, .getfield 7), (9, .iconst 3), (10, .iaload)] (by decide +kernel) rfl rfl ?_
    refine g_icmp_ge (off := 65) (tgt := 76) (by decide +kernel) (by decide) (fun zc11 => ?_) (fun zc11 => ?_)
    · rw [h3, nI_leI (by omega) (by omega)] at zc11
      exact absurd zc11 (by omega)
    · rw [h3, nI_leI (by omega) (by omega)] at zc11
      refine g_blk (pc' := 17) (loc' := [some (vR (8, 0, 0)), some (vI n), some (vI (nI t)), none]) (st' := [vI (3 : Int32), vI (nI t), vR (8, 0, 0)]) (σ' := sa σ f) fl5_ok [(14, .aload_n 0), (15, .iload_n 2), (16, .iconst 3)] (by decide +kernel) rfl rfl ?_
      refine g_callVp (8, 0, 0) [vI (nI t), vI (3 : Int32)] [] vl_RX5_65 mi_X5_ofTask (c_X5_ofTask l (r := t) (c := 3) rfl rfl (by omega) (by omega)) rfl rfl rfl rfl ⟨Nat.le_of_ble_eq_true rfl, Nat.le_of_ble_eq_true rfl⟩ rfl (Nat.le_of_ble_eq_true rfl) (by decide +kernel) ?_
      refine g_if_ne (off := 50) (tgt := 70) (by decide +kernel) (by decide) (fun zc20 => ?_) (fun zc20 => ?_)
      · refine g_blk (pc' := 4) (loc' := [some (vR (8, 0, 0)), some (vI n), some (vI ((nI t) + (1 : Int32))), none]) (st' := []) (σ' := sa σ f) fl5_ok [(70, .iinc 2 1), (73, .goto (-69))] (by decide +kernel) rfl rfl ?_
        rw [skF, if_pos zc20] at hd
        rw [nI_1]
        exact ih (t + 1) f n (by omega) h1 h2 h3 hw hd
      · refine g_blk (pc' := 26) (loc' := [some (vR (8, 0, 0)), some (vI n), some (vI (nI t)), none]) (st' := [vI (1 : Int32), vI (nI t), vR (8, 0, 0)]) (σ' := sa σ f) fl5_ok [(23, .aload_n 0), (24, .iload_n 2), (25, .iconst 1)] (by decide +kernel) rfl rfl ?_
        have hwt := hw t (by omega) zc20
        refine g_callVp (8, 0, 0) [vI (nI t), vI (1 : Int32)] [] vl_RX5_65 mi_X5_ofTask (c_X5_ofTask l (r := t) (c := 1) rfl rfl (by omega) (by omega)) rfl rfl rfl rfl ⟨Nat.le_of_ble_eq_true rfl, Nat.le_of_ble_eq_true rfl⟩ rfl (Nat.le_of_ble_eq_true rfl) (by decide +kernel) ?_
        refine g_blk (pc' := 36) (loc' := [some (vR (8, 0, 0)), some (vI n), some (vI (nI t)), some (vI (mk f t 1))]) (st' := [vI (2 : Int32), vI (mk f t 1), vR (8, 0, 0), vI (2 : Int32), vI (mk f t 1), vR (8, 0, 0)]) (σ' := sa σ f) fl5_ok [(29, .istore_n 3), (30, .aload_n 0), (31, .iload_n 3), (32, .iconst 2), (33, .aload_n 0), (34, .iload_n 3), (35, .iconst 2)] (by decide +kernel) rfl rfl ?_
        refine g_callVp (8, 0, 0) [vI (mk f t 1), vI (2 : Int32)] [vI (2 : Int32), vI (mk f t 1), vR (8, 0, 0)] vl_RX5_44 mi_X5_of (c_X5_of l (r := (who t)) (c := 2) hwt.1 rfl (by omega) (by omega)) rfl rfl rfl rfl ⟨Nat.le_of_ble_eq_true rfl, Nat.le_of_ble_eq_true rfl⟩ rfl (Nat.le_of_ble_eq_true rfl) (by decide +kernel) ?_
        refine g_blk (pc' := 42) (loc' := [some (vR (8, 0, 0)), some (vI n), some (vI (nI t)), some (vI (mk f t 1))]) (st' := [vI (2 : Int32), vI (nI t), vR (8, 0, 0), vI (mo f (who t) 2), vI (2 : Int32), vI (mk f t 1), vR (8, 0, 0)]) (σ' := sa σ f) fl5_ok [(39, .aload_n 0), (40, .iload_n 2), (41, .iconst 2)] (by decide +kernel) rfl rfl ?_
        refine g_callVp (8, 0, 0) [vI (nI t), vI (2 : Int32)] [vI (mo f (who t) 2), vI (2 : Int32), vI (mk f t 1), vR (8, 0, 0)] vl_RX5_65 mi_X5_ofTask (c_X5_ofTask l (r := t) (c := 2) rfl rfl (by omega) (by omega)) rfl rfl rfl rfl ⟨Nat.le_of_ble_eq_true rfl, Nat.le_of_ble_eq_true rfl⟩ rfl (Nat.le_of_ble_eq_true rfl) (by decide +kernel) ?_
        refine g_blk (pc' := 46) (loc' := [some (vR (8, 0, 0)), some (vI n), some (vI (nI t)), some (vI (mk f t 1))]) (st' := [vI ((mo f (who t) 2) + (mk f t 2)), vI (2 : Int32), vI (mk f t 1), vR (8, 0, 0)]) (σ' := sa σ f) fl5_ok [(45, .iadd)] (by decide +kernel) rfl rfl ?_
        refine g_callV (8, 0, 0) [vI (mk f t 1), vI (2 : Int32), vI ((mo f (who t) 2) + (mk f t 2))] [] vl_RX5_36 mi_X5_lay (c_X5_lay l (r := (who t)) (c := 2) ((mo f (who t) 2) + (mk f t 2)) hwt.1 rfl (by omega) (by omega)) rfl rfl rfl rfl ⟨Nat.le_of_ble_eq_true rfl, Nat.le_of_ble_eq_true rfl⟩ rfl (Nat.le_of_ble_eq_true rfl) (by decide +kernel) (fun o σ1 hP => ?_)
        obtain ⟨rfl, rfl⟩ := hP
        refine g_blk (pc' := 55) (loc' := [some (vR (8, 0, 0)), some (vI n), some (vI (nI t)), some (vI (mk f t 1))]) (st' := [vI (3 : Int32), vI (mk f t 1), vR (8, 0, 0), vI (3 : Int32), vI (mk f t 1), vR (8, 0, 0)]) (σ' := sa σ (so f (who t) 2 ((mo f (who t) 2) + (mk f t 2)))) fl5_ok [(49, .aload_n 0), (50, .iload_n 3), (51, .iconst 3), (52, .aload_n 0), (53, .iload_n 3), (54, .iconst 3)] (by decide +kernel) rfl rfl ?_
        refine g_callVp (8, 0, 0) [vI (mk f t 1), vI (3 : Int32)] [vI (3 : Int32), vI (mk f t 1), vR (8, 0, 0)] vl_RX5_44 mi_X5_of (c_X5_of l (r := (who t)) (c := 3) hwt.1 rfl (by omega) (by omega)) rfl rfl rfl rfl ⟨Nat.le_of_ble_eq_true rfl, Nat.le_of_ble_eq_true rfl⟩ rfl (Nat.le_of_ble_eq_true rfl) (by decide +kernel) ?_
        refine g_blk (pc' := 60) (loc' := [some (vR (8, 0, 0)), some (vI n), some (vI (nI t)), some (vI (mk f t 1))]) (st' := [vI (0 : Int32), vR (8, 0, 0), vI (mo (so f (who t) 2 ((mo f (who t) 2) + (mk f t 2))) (who t) 3), vI (3 : Int32), vI (mk f t 1), vR (8, 0, 0)]) (σ' := sa σ (so f (who t) 2 ((mo f (who t) 2) + (mk f t 2)))) fl5_ok [(58, .aload_n 0), (59, .iconst 0)] (by decide +kernel) rfl rfl ?_
        refine g_callVp (8, 0, 0) [vI (0 : Int32)] [vI (mo (so f (who t) 2 ((mo f (who t) 2) + (mk f t 2))) (who t) 3), vI (3 : Int32), vI (mk f t 1), vR (8, 0, 0)] vl_RX5_58 mi_X5_setting (c_X5_setting l (c := 0) rfl (by omega)) rfl rfl rfl rfl ⟨Nat.le_of_ble_eq_true rfl, Nat.le_of_ble_eq_true rfl⟩ rfl (Nat.le_of_ble_eq_true rfl) (by decide +kernel) ?_
        refine g_blk (pc' := 64) (loc' := [some (vR (8, 0, 0)), some (vI n), some (vI (nI t)), some (vI (mk f t 1))]) (st' := [vI ((mo (so f (who t) 2 ((mo f (who t) 2) + (mk f t 2))) (who t) 3) + ((so f (who t) 2 ((mo f (who t) 2) + (mk f t 2))) 8)), vI (3 : Int32), vI (mk f t 1), vR (8, 0, 0)]) (σ' := sa σ (so f (who t) 2 ((mo f (who t) 2) + (mk f t 2)))) fl5_ok [(63, .iadd)] (by decide +kernel) rfl rfl ?_
        refine g_callV (8, 0, 0) [vI (mk f t 1), vI (3 : Int32), vI ((mo (so f (who t) 2 ((mo f (who t) 2) + (mk f t 2))) (who t) 3) + ((so f (who t) 2 ((mo f (who t) 2) + (mk f t 2))) 8))] [] vl_RX5_36 mi_X5_lay (c_X5_lay l (r := (who t)) (c := 3) ((mo (so f (who t) 2 ((mo f (who t) 2) + (mk f t 2))) (who t) 3) + ((so f (who t) 2 ((mo f (who t) 2) + (mk f t 2))) 8)) hwt.1 rfl (by omega) (by omega)) rfl rfl rfl rfl ⟨Nat.le_of_ble_eq_true rfl, Nat.le_of_ble_eq_true rfl⟩ rfl (Nat.le_of_ble_eq_true rfl) (by decide +kernel) (fun o σ2 hP => ?_)
        obtain ⟨rfl, rfl⟩ := hP
        refine g_blk (pc' := 4) (loc' := [some (vR (8, 0, 0)), some (vI (n + (1 : Int32))), some (vI ((nI t) + (1 : Int32))), some (vI (mk f t 1))]) (st' := []) (σ' := sa σ (so (so f (who t) 2 ((mo f (who t) 2) + (mk f t 2))) (who t) 3 ((mo (so f (who t) 2 ((mo f (who t) 2) + (mk f t 2))) (who t) 3) + ((so f (who t) 2 ((mo f (who t) 2) + (mk f t 2))) 8)))) fl5_ok [(67, .iinc 1 1), (70, .iinc 2 1), (73, .goto (-69))] (by decide +kernel) rfl rfl ?_
        rw [skF, if_neg (not_not_intro zc20)] at hd
        rw [nI_1]
        exact g_sub (loc' := [some (vR (8, 0, 0)), some (vI (n + 1)), some (vI (nI (t + 1))), none]) ⟨Or.inr rfl, Or.inr rfl, Or.inr rfl, Or.inl rfl, trivial⟩ (ih (t + 1) (skM f t (who t)) (n + 1) (by omega) (by rw [skM_lo (by decide)]; exact h1) (by rw [skM_lo (by decide)]; exact h2) (by rw [skM_lo (by decide)]; exact h3) (fun j hj h0 => by rw [skM_mk (hw t (by omega) zc20).2] at h0 ⊢; exact hw j hj h0) hd)
set_option maxHeartbeats 2000000 in
theorem c_X5_makeEnd (l : Launch) {σ : Sg} {f : Nat → Int32} {nr na nt : Nat} {who : Nat → Nat} (hnr : f 1 = nI nr) (h8 : nr ≤ 8) (hna : f 2 = nI na) (h6 : na ≤ 6) (hnt : f 3 = nI nt) (h12 : nt ≤ 12) (hw : ∀ j, j < nt → mk f j 3 = 0 → mk f j 1 = nI (who j) ∧ who j < 8) : Con l 1 yX5_makeEnd cX5_makeEnd 4 (some .int) [vR (8, 0, 0)] (sa σ f) (fun o σ' => o = some (vI (skF who nt 0 f 0).2) ∧ σ' = sa σ (endM f who nr na nt)) := by
  refine con_of pn_X5_makeEnd (Nat.le_of_ble_eq_true rfl) (fun hPK hok => ?_)
  show G l (Rm 1) RX5 cX5_makeEnd 4 (some .int) _ 0 [some (vR (8, 0, 0)), none, none, none] [] (sa σ f)
  refine g_blk (pc' := 4) (loc' := [some (vR (8, 0, 0)), some (vI (0 : Int32)), some (vI (0 : Int32)), none]) (st' := []) (σ' := sa σ f) fl5_ok [(0, .iconst 0), (1, .istore_n 1), (2, .iconst 0), (3, .istore_n 2)] (by decide +kernel) rfl rfl ?_
  exact lp_X5_end1 l h8 h6 h12 nt 0 f 0 (by omega) hnr hna hnt hw rfl
set_option maxHeartbeats 2000000 in
theorem lp_X5_give (l : Launch) {σ : Sg} {nr nt : Nat} {F : Nat → Int32} (h8 : nr ≤ 8) (h12 : nt ≤ 12) : ∀ (k t : Nat) (f : Nat → Int32), t + k = nt → f 1 = nI nr → f 3 = nI nt → gvM nr nt k t f = F → G l (Rm 4) RX5 cX5_makePlan 3 (some .int) (fun o σ' => o = some (vI (nI nt)) ∧ σ' = sa σ F) 109 [some (vR (8, 0, 0)), some (vI (nI t)), none] [] (sa σ f) := by
  intro k
  induction k with
  | zero =>
    intro t f hk h1 h3 hd
    refine g_blk (pc' := 116) (loc' := [some (vR (8, 0, 0)), some (vI (nI t)), none]) (st' := [vI (f 3), vI (nI t)]) (σ' := sa σ f) fl5_ok [(109, .iload_n 1), (110, .aload_n 0), (111, .getfield 7), (114, .iconst 3), (115, .iaload)] (by decide +kernel) rfl rfl ?_
    refine g_icmp_ge (off := 41) (tgt := 157) (by decide +kernel) (by decide) (fun zc116 => ?_) (fun zc116 => ?_)
    · rw [h3, nI_leI (by omega) (by omega)] at zc116
      refine g_blk (pc' := 163) (loc' := [some (vR (8, 0, 0)), some (vI (nI t)), none]) (st' := [vI (f 3)]) (σ' := sa σ f) fl5_ok [(157, .aload_n 0), (158, .getfield 7), (161, .iconst 3), (162, .iaload)] (by decide +kernel) rfl rfl ?_
      have hd : f = F := hd
      subst hd
      rw [h3]
      exact g_iret (by decide +kernel) ⟨rfl, rfl⟩
    · rw [h3, nI_leI (by omega) (by omega)] at zc116
      exact absurd (by omega) zc116
  | succ k ih =>
    intro t f hk h1 h3 hd
    refine g_blk (pc' := 116) (loc' := [some (vR (8, 0, 0)), some (vI (nI t)), none]) (st' := [vI (f 3), vI (nI t)]) (σ' := sa σ f) fl5_ok [(109, .iload_n 1), (110, .aload_n 0), (111, .getfield 7), (114, .iconst 3), (115, .iaload)] (by decide +kernel) rfl rfl ?_
    refine g_icmp_ge (off := 41) (tgt := 157) (by decide +kernel) (by decide) (fun zc116 => ?_) (fun zc116 => ?_)
    · rw [h3, nI_leI (by omega) (by omega)] at zc116
      exact absurd zc116 (by omega)
    · rw [h3, nI_leI (by omega) (by omega)] at zc116
      refine g_blk (pc' := 122) (loc' := [some (vR (8, 0, 0)), some (vI (nI t)), none]) (st' := [vI (nI t), vR (8, 0, 0), vR (8, 0, 0)]) (σ' := sa σ f) fl5_ok [(119, .aload_n 0), (120, .aload_n 0), (121, .iload_n 1)] (by decide +kernel) rfl rfl ?_
      refine g_callVp (8, 0, 0) [vI (nI t)] [vR (8, 0, 0)] vl_RX5_89 mi_X5_partnerOf (c_X5_partnerOf l (t := t) rfl (by omega)) rfl rfl rfl rfl ⟨Nat.le_of_ble_eq_true rfl, Nat.le_of_ble_eq_true rfl⟩ rfl (Nat.le_of_ble_eq_true rfl) (by decide +kernel) ?_
      refine g_callVp (8, 0, 0) [vI (partL f t t)] [] vl_RX5_77 mi_X5_bestFor (c_X5_bestFor l (partL f t t) h1 (by omega) h3 (by omega)) rfl rfl rfl rfl ⟨Nat.le_of_ble_eq_true rfl, Nat.le_of_ble_eq_true rfl⟩ rfl (Nat.le_of_ble_eq_true rfl) (by decide +kernel) ?_
      refine g_blk (pc' := 135) (loc' := [some (vR (8, 0, 0)), some (vI (nI t)), some (vI (bestL f (partL f t t) nt nr))]) (st' := [vI (-6 : Int32), vI (bestL f (partL f t t) nt nr), vI (1 : Int32), vI (nI t), vR (8, 0, 0)]) (σ' := sa σ f) fl5_ok [(128, .istore_n 2), (129, .aload_n 0), (130, .iload_n 1), (131, .iconst 1), (132, .iload_n 2), (133, .bipush (-6))] (by decide +kernel) rfl rfl ?_
      refine g_icmp_ne (off := 12) (tgt := 147) (by decide +kernel) (by decide) (fun zc135 => ?_) (fun zc135 => ?_)
      · refine g_blk (pc' := 148) (loc' := [some (vR (8, 0, 0)), some (vI (nI t)), some (vI (bestL f (partL f t t) nt nr))]) (st' := [vI (bestL f (partL f t t) nt nr), vI (1 : Int32), vI (nI t), vR (8, 0, 0)]) (σ' := sa σ f) fl5_ok [(147, .iload_n 2)] (by decide +kernel) rfl rfl ?_
        refine g_callV (8, 0, 0) [vI (nI t), vI (1 : Int32), vI (bestL f (partL f t t) nt nr)] [] vl_RX5_68 mi_X5_layTask (c_X5_layTask l (r := t) (c := 1) (bestL f (partL f t t) nt nr) rfl rfl (by omega) (by omega)) rfl rfl rfl rfl ⟨Nat.le_of_ble_eq_true rfl, Nat.le_of_ble_eq_true rfl⟩ rfl (Nat.le_of_ble_eq_true rfl) (by decide +kernel) (fun o σ1 hP => ?_)
        obtain ⟨rfl, rfl⟩ := hP
        refine g_blk (pc' := 109) (loc' := [some (vR (8, 0, 0)), some (vI ((nI t) + (1 : Int32))), some (vI (bestL f (partL f t t) nt nr))]) (st' := []) (σ' := sa σ (sk f t 1 (bestL f (partL f t t) nt nr))) fl5_ok [(151, .iinc 1 1), (154, .goto (-45))] (by decide +kernel) rfl rfl ?_
        rw [gvM, gv1, if_pos zc135] at hd
        rw [nI_1]
        exact g_sub (loc' := [some (vR (8, 0, 0)), some (vI (nI (t + 1))), none]) ⟨Or.inr rfl, Or.inr rfl, Or.inl rfl, trivial⟩ (ih (t + 1) _ (by omega) (by rw [sk_lo (by decide)]; exact h1) (by rw [sk_lo (by decide)]; exact h3) hd)
      · refine g_blk (pc' := 141) (loc' := [some (vR (8, 0, 0)), some (vI (nI t)), some (vI (bestL f (partL f t t) nt nr))]) (st' := [vI (-6 : Int32), vR (8, 0, 0), vI (1 : Int32), vI (nI t), vR (8, 0, 0)]) (σ' := sa σ f) fl5_ok [(138, .aload_n 0), (139, .bipush (-6))] (by decide +kernel) rfl rfl ?_
        refine g_callVp (8, 0, 0) [vI (-6 : Int32)] [vI (1 : Int32), vI (nI t), vR (8, 0, 0)] vl_RX5_77 mi_X5_bestFor (c_X5_bestFor l (-6 : Int32) h1 (by omega) h3 (by omega)) rfl rfl rfl rfl ⟨Nat.le_of_ble_eq_true rfl, Nat.le_of_ble_eq_true rfl⟩ rfl (Nat.le_of_ble_eq_true rfl) (by decide +kernel) ?_
        refine g_blk (pc' := 148) (loc' := [some (vR (8, 0, 0)), some (vI (nI t)), some (vI (bestL f (partL f t t) nt nr))]) (st' := [vI (bestL f (-6 : Int32) nt nr), vI (1 : Int32), vI (nI t), vR (8, 0, 0)]) (σ' := sa σ f) fl5_ok [(144, .goto 4)] (by decide +kernel) rfl rfl ?_
        refine g_callV (8, 0, 0) [vI (nI t), vI (1 : Int32), vI (bestL f (-6 : Int32) nt nr)] [] vl_RX5_68 mi_X5_layTask (c_X5_layTask l (r := t) (c := 1) (bestL f (-6 : Int32) nt nr) rfl rfl (by omega) (by omega)) rfl rfl rfl rfl ⟨Nat.le_of_ble_eq_true rfl, Nat.le_of_ble_eq_true rfl⟩ rfl (Nat.le_of_ble_eq_true rfl) (by decide +kernel) (fun o σ2 hP => ?_)
        obtain ⟨rfl, rfl⟩ := hP
        refine g_blk (pc' := 109) (loc' := [some (vR (8, 0, 0)), some (vI ((nI t) + (1 : Int32))), some (vI (bestL f (partL f t t) nt nr))]) (st' := []) (σ' := sa σ (sk f t 1 (bestL f (-6 : Int32) nt nr))) fl5_ok [(151, .iinc 1 1), (154, .goto (-45))] (by decide +kernel) rfl rfl ?_
        rw [gvM, gv1, if_neg (not_not_intro zc135)] at hd
        rw [nI_1]
        exact g_sub (loc' := [some (vR (8, 0, 0)), some (vI (nI (t + 1))), none]) ⟨Or.inr rfl, Or.inr rfl, Or.inl rfl, trivial⟩ (ih (t + 1) _ (by omega) (by rw [sk_lo (by decide)]; exact h1) (by rw [sk_lo (by decide)]; exact h3) hd)
set_option maxHeartbeats 2000000 in
theorem lp_X5_make (l : Launch) {σ : Sg} {nr na : Nat} {Q : (Nat → Int32) × Nat} (h8 : nr ≤ 8) (h6 : na ≤ 6) : ∀ (k a : Nat) (f : Nat → Int32) (nt : Nat), a + k = na → f 1 = nI nr → f 2 = nI na → f 3 = nI nt → nt ≤ 2 * a → (∀ j, j < na → ¬ ma f j 1 = 0) → plA k a f nt = Q → G l (Rm 4) RX5 cX5_makePlan 3 (some .int) (fun o σ' => o = some (vI (nI Q.2)) ∧ σ' = sa σ (gvM nr Q.2 Q.2 0 Q.1)) 29 [some (vR (8, 0, 0)), some (vI (nI a)), none] [] (sa σ f) := by
  intro k
  induction k with
  | zero =>
    intro a f nt hk h1 h2 h3 hn hp hd
    refine g_blk (pc' := 36) (loc' := [some (vR (8, 0, 0)), some (vI (nI a)), none]) (st' := [vI (f 2), vI (nI a)]) (σ' := sa σ f) fl5_ok [(29, .iload_n 1), (30, .aload_n 0), (31, .getfield 7), (34, .iconst 2), (35, .iaload)] (by decide +kernel) rfl rfl ?_
    refine g_icmp_ge (off := 71) (tgt := 107) (by decide +kernel) (by decide) (fun zc36 => ?_) (fun zc36 => ?_)
    · rw [h2, nI_leI (by omega) (by omega)] at zc36
      refine g_blk (pc' := 109) (loc' := [some (vR (8, 0, 0)), some (vI (0 : Int32)), none]) (st' := []) (σ' := sa σ f) fl5_ok [(107, .iconst 0), (108, .istore_n 1)] (by decide +kernel) rfl rfl ?_
      have hd : (f, nt) = Q := hd
      subst hd
      exact g_sub (loc' := [some (vR (8, 0, 0)), some (vI (nI 0)), none]) ⟨Or.inr rfl, Or.inr rfl, Or.inl rfl, trivial⟩ (lp_X5_give l h8 (by omega) nt 0 f (by omega) h1 h3 rfl)
    · rw [h2, nI_leI (by omega) (by omega)] at zc36
      exact absurd (by omega) zc36
  | succ k ih =>
    intro a f nt hk h1 h2 h3 hn hp hd
    refine g_blk (pc' := 36) (loc' := [some (vR (8, 0, 0)), some (vI (nI a)), none]) (st' := [vI (f 2), vI (nI a)]) (σ' := sa σ f) fl5_ok [(29, .iload_n 1), (30, .aload_n 0), (31, .getfield 7), (34, .iconst 2), (35, .iaload)] (by decide +kernel) rfl rfl ?_
    refine g_icmp_ge (off := 71) (tgt := 107) (by decide +kernel) (by decide) (fun zc36 => ?_) (fun zc36 => ?_)
    · rw [h2, nI_leI (by omega) (by omega)] at zc36
      exact absurd zc36 (by omega)
    · rw [h2, nI_leI (by omega) (by omega)] at zc36
      refine g_blk (pc' := 41) (loc' := [some (vR (8, 0, 0)), some (vI (nI a)), none]) (st' := [vI (nI a), vR (8, 0, 0)]) (σ' := sa σ f) fl5_ok [(39, .aload_n 0), (40, .iload_n 1)] (by decide +kernel) rfl rfl ?_
      refine g_callVp (8, 0, 0) [vI (nI a)] [] vl_RX5_80 mi_X5_needsDeep (c_X5_needsDeep l (a := a) rfl (by omega)) rfl rfl rfl rfl ⟨Nat.le_of_ble_eq_true rfl, Nat.le_of_ble_eq_true rfl⟩ rfl (Nat.le_of_ble_eq_true rfl) (by decide +kernel) ?_
      refine g_if_eq (off := 37) (tgt := 81) (by decide +kernel) (by decide) (fun zc44 => ?_) (fun zc44 => ?_)
      · refine g_blk (pc' := 83) (loc' := [some (vR (8, 0, 0)), some (vI (nI a)), none]) (st' := [vI (nI a), vR (8, 0, 0)]) (σ' := sa σ f) fl5_ok [(81, .aload_n 0), (82, .iload_n 1)] (by decide +kernel) rfl rfl ?_
        refine g_callVp (8, 0, 0) [vI (nI a)] [] vl_RX5_86 mi_X5_isDue (c_X5_isDue l (a := a) rfl (by omega) (hp a (by omega))) rfl rfl rfl rfl ⟨Nat.le_of_ble_eq_true rfl, Nat.le_of_ble_eq_true rfl⟩ rfl (Nat.le_of_ble_eq_true rfl) (by decide +kernel) ?_
        refine g_if_eq (off := 15) (tgt := 101) (by decide +kernel) (by decide) (fun zc86 => ?_) (fun zc86 => ?_)
        · refine g_blk (pc' := 29) (loc' := [some (vR (8, 0, 0)), some (vI ((nI a) + (1 : Int32))), none]) (st' := []) (σ' := sa σ f) fl5_ok [(101, .iinc 1 1), (104, .goto (-75))] (by decide +kernel) rfl rfl ?_
          rw [plA, pl1, if_pos zc44, if_pos zc86] at hd
          rw [nI_1]
          exact ih (a + 1) f nt (by omega) h1 h2 h3 (by omega) hp hd
        · refine g_blk (pc' := 94) (loc' := [some (vR (8, 0, 0)), some (vI (nI a)), none]) (st' := [vI (0 : Int32), vI (nI a), vR (8, 0, 0), vI (nI a), vR (8, 0, 0)]) (σ' := sa σ f) fl5_ok [(89, .aload_n 0), (90, .iload_n 1), (91, .aload_n 0), (92, .iload_n 1), (93, .iconst 0)] (by decide +kernel) rfl rfl ?_
          refine g_callVp (8, 0, 0) [vI (nI a), vI (0 : Int32)] [vI (nI a), vR (8, 0, 0)] vl_RX5_62 mi_X5_ofArea (c_X5_ofArea l (r := a) (c := 0) rfl rfl (by omega) (by omega)) rfl rfl rfl rfl ⟨Nat.le_of_ble_eq_true rfl, Nat.le_of_ble_eq_true rfl⟩ rfl (Nat.le_of_ble_eq_true rfl) (by decide +kernel) ?_
          refine g_blk (pc' := 98) (loc' := [some (vR (8, 0, 0)), some (vI (nI a)), none]) (st' := [vI (0 : Int32), vI (ma f a 0), vI (nI a), vR (8, 0, 0)]) (σ' := sa σ f) fl5_ok [(97, .iconst 0)] (by decide +kernel) rfl rfl ?_
          refine g_callV (8, 0, 0) [vI (nI a), vI (ma f a 0), vI (0 : Int32)] [] vl_RX5_83 mi_X5_addTask (c_X5_addTask l (a := a) (nt := nt) (ma f a 0) (0 : Int32) rfl h3 (by omega)) rfl rfl rfl rfl ⟨Nat.le_of_ble_eq_true rfl, Nat.le_of_ble_eq_true rfl⟩ rfl (Nat.le_of_ble_eq_true rfl) (by decide +kernel) (fun o σ1 hP => ?_)
          obtain ⟨rfl, rfl⟩ := hP
          refine g_blk (pc' := 29) (loc' := [some (vR (8, 0, 0)), some (vI ((nI a) + (1 : Int32))), none]) (st' := []) (σ' := sa σ (addM f nt a (ma f a 0) (0 : Int32))) fl5_ok [(101, .iinc 1 1), (104, .goto (-75))] (by decide +kernel) rfl rfl ?_
          rw [plA, pl1, if_pos zc44, if_neg zc86] at hd
          rw [nI_1]
          exact g_sub (loc' := [some (vR (8, 0, 0)), some (vI (nI (a + 1))), none]) ⟨Or.inr rfl, Or.inr rfl, Or.inl rfl, trivial⟩ (ih (a + 1) _ (nt + 1) (by omega) (by rw [addM_lo (by omega) (by omega)]; exact h1) (by rw [addM_lo (by omega) (by omega)]; exact h2) addM_3 (by omega) (fun j hj => by unfold ma; rw [addM_lo (by omega) (by omega)]; exact hp j hj) hd)
      · refine g_blk (pc' := 49) (loc' := [some (vR (8, 0, 0)), some (vI (nI a)), none]) (st' := [vI (2 : Int32), vR (8, 0, 0)]) (σ' := sa σ f) fl5_ok [(47, .aload_n 0), (48, .iconst 2)] (by decide +kernel) rfl rfl ?_
        refine g_callVp (8, 0, 0) [vI (2 : Int32)] [] vl_RX5_58 mi_X5_setting (c_X5_setting l (c := 2) rfl (by omega)) rfl rfl rfl rfl ⟨Nat.le_of_ble_eq_true rfl, Nat.le_of_ble_eq_true rfl⟩ rfl (Nat.le_of_ble_eq_true rfl) (by decide +kernel) ?_
        refine g_blk (pc' := 55) (loc' := [some (vR (8, 0, 0)), some (vI (nI a)), none]) (st' := [vI (0 : Int32), vI (nI a), vR (8, 0, 0), vI (f 10)]) (σ' := sa σ f) fl5_ok [(52, .aload_n 0), (53, .iload_n 1), (54, .iconst 0)] (by decide +kernel) rfl rfl ?_
        refine g_callVp (8, 0, 0) [vI (nI a), vI (0 : Int32)] [vI (f 10)] vl_RX5_62 mi_X5_ofArea (c_X5_ofArea l (r := a) (c := 0) rfl rfl (by omega) (by omega)) rfl rfl rfl rfl ⟨Nat.le_of_ble_eq_true rfl, Nat.le_of_ble_eq_true rfl⟩ rfl (Nat.le_of_ble_eq_true rfl) (by decide +kernel) ?_
        refine g_blk (pc' := 62) (loc' := [some (vR (8, 0, 0)), some (vI (nI a)), none]) (st' := [vI (2 : Int32), vI (((f 10) * (ma f a 0)) + (1 : Int32))]) (σ' := sa σ f) fl5_ok [(58, .imul), (59, .iconst 1), (60, .iadd), (61, .iconst 2)] (by decide +kernel) rfl rfl ?_
        refine g_idiv (hy := by decide) (hd := by decide +kernel) (k := ?_)
        refine g_blk (pc' := 68) (loc' := [some (vR (8, 0, 0)), some (vI (nI a)), some (vI ((((f 10) * (ma f a 0)) + (1 : Int32)) / (2 : Int32)))]) (st' := [vI (1 : Int32), vI ((((f 10) * (ma f a 0)) + (1 : Int32)) / (2 : Int32)), vI (nI a), vR (8, 0, 0)]) (σ' := sa σ f) fl5_ok [(63, .istore_n 2), (64, .aload_n 0), (65, .iload_n 1), (66, .iload_n 2), (67, .iconst 1)] (by decide +kernel) rfl rfl ?_
        refine g_callV (8, 0, 0) [vI (nI a), vI ((((f 10) * (ma f a 0)) + (1 : Int32)) / (2 : Int32)), vI (1 : Int32)] [] vl_RX5_83 mi_X5_addTask (c_X5_addTask l (a := a) (nt := nt) ((((f 10) * (ma f a 0)) + (1 : Int32)) / (2 : Int32)) (1 : Int32) rfl h3 (by omega)) rfl rfl rfl rfl ⟨Nat.le_of_ble_eq_true rfl, Nat.le_of_ble_eq_true rfl⟩ rfl (Nat.le_of_ble_eq_true rfl) (by decide +kernel) (fun o σ2 hP => ?_)
        obtain ⟨rfl, rfl⟩ := hP
        refine g_blk (pc' := 75) (loc' := [some (vR (8, 0, 0)), some (vI (nI a)), some (vI ((((f 10) * (ma f a 0)) + (1 : Int32)) / (2 : Int32)))]) (st' := [vI (1 : Int32), vI ((((f 10) * (ma f a 0)) + (1 : Int32)) / (2 : Int32)), vI (nI a), vR (8, 0, 0)]) (σ' := sa σ (addM f nt a ((((f 10) * (ma f a 0)) + (1 : Int32)) / (2 : Int32)) (1 : Int32))) fl5_ok [(71, .aload_n 0), (72, .iload_n 1), (73, .iload_n 2), (74, .iconst 1)] (by decide +kernel) rfl rfl ?_
        refine g_callV (8, 0, 0) [vI (nI a), vI ((((f 10) * (ma f a 0)) + (1 : Int32)) / (2 : Int32)), vI (1 : Int32)] [] vl_RX5_83 mi_X5_addTask (c_X5_addTask l (a := a) (nt := (nt + 1)) ((((f 10) * (ma f a 0)) + (1 : Int32)) / (2 : Int32)) (1 : Int32) rfl addM_3 (by omega)) rfl rfl rfl rfl ⟨Nat.le_of_ble_eq_true rfl, Nat.le_of_ble_eq_true rfl⟩ rfl (Nat.le_of_ble_eq_true rfl) (by decide +kernel) (fun o σ3 hP => ?_)
        obtain ⟨rfl, rfl⟩ := hP
        refine g_blk (pc' := 29) (loc' := [some (vR (8, 0, 0)), some (vI ((nI a) + (1 : Int32))), some (vI ((((f 10) * (ma f a 0)) + (1 : Int32)) / (2 : Int32)))]) (st' := []) (σ' := sa σ (addM (addM f nt a ((((f 10) * (ma f a 0)) + (1 : Int32)) / (2 : Int32)) (1 : Int32)) (nt + 1) a ((((f 10) * (ma f a 0)) + (1 : Int32)) / (2 : Int32)) (1 : Int32))) fl5_ok [(78, .goto 23), (101, .iinc 1 1), (104, .goto (-75))] (by decide +kernel) rfl rfl ?_
        rw [plA, pl1, if_neg zc44] at hd
        rw [nI_1]
        exact g_sub (loc' := [some (vR (8, 0, 0)), some (vI (nI (a + 1))), none]) ⟨Or.inr rfl, Or.inr rfl, Or.inl rfl, trivial⟩ (ih (a + 1) _ (nt + 2) (by omega) (by rw [addM_lo (by omega) (by omega)]; rw [addM_lo (by omega) (by omega)]; exact h1) (by rw [addM_lo (by omega) (by omega)]; rw [addM_lo (by omega) (by omega)]; exact h2) addM_3 (by omega) (fun j hj => by unfold ma; rw [addM_lo (by omega) (by omega)]; rw [addM_lo (by omega) (by omega)]; exact hp j hj) hd)
set_option maxHeartbeats 2000000 in
theorem c_X5_makePlan (l : Launch) {σ : Sg} {f : Nat → Int32} {nr na : Nat} (hnr : f 1 = nI nr) (h8 : nr ≤ 8) (hna : f 2 = nI na) (h6 : na ≤ 6) (hp : ∀ j, j < na → ¬ ma f j 1 = 0) : Con l 4 yX5_makePlan cX5_makePlan 3 (some .int) [vR (8, 0, 0)] (sa σ f) (fun o σ' => o = some (vI (nI (planM f nr na).2)) ∧ σ' = sa σ (planM f nr na).1) := by
  refine con_of pn_X5_makePlan (Nat.le_of_ble_eq_true rfl) (fun hPK hok => ?_)
  show G l (Rm 4) RX5 cX5_makePlan 3 (some .int) _ 0 [some (vR (8, 0, 0)), none, none] [] (sa σ f)
  refine g_blk (pc' := 6) (loc' := [some (vR (8, 0, 0)), none, none]) (st' := [vI (1 : Int32), vI (4 : Int32), vR (9, 0, 0)]) (σ' := sa σ f) fl5_ok [(0, .aload_n 0), (1, .getfield 7), (4, .iconst 4), (5, .iconst 1)] (by decide +kernel) rfl rfl ?_
  refine g_sst (k := 4) rfl (by omega) (by decide +kernel) ?_
  refine g_blk (pc' := 13) (loc' := [some (vR (8, 0, 0)), none, none]) (st' := [vI (0 : Int32), vI (3 : Int32), vR (9, 0, 0)]) (σ' := sa σ (upd f 4 (1 : Int32))) fl5_ok [(7, .aload_n 0), (8, .getfield 7), (11, .iconst 3), (12, .iconst 0)] (by decide +kernel) rfl rfl ?_
  refine g_sst (k := 3) rfl (by omega) (by decide +kernel) ?_
  refine g_blk (pc' := 17) (loc' := [some (vR (8, 0, 0)), none, none]) (st' := [vI (-6 : Int32), vR (8, 0, 0)]) (σ' := sa σ (upd (upd f 4 (1 : Int32)) 3 (0 : Int32))) fl5_ok [(14, .aload_n 0), (15, .bipush (-6))] (by decide +kernel) rfl rfl ?_
  refine g_callVp (8, 0, 0) [vI (-6 : Int32)] [] vl_RX5_77 mi_X5_bestFor (c_X5_bestFor l (-6 : Int32) (by rw [up_ne (by decide), up_ne (by decide)]; exact hnr) (by omega) (nt := 0) up_at (by omega)) rfl rfl rfl rfl ⟨Nat.le_of_ble_eq_true rfl, Nat.le_of_ble_eq_true rfl⟩ rfl (Nat.le_of_ble_eq_true rfl) (by decide +kernel) ?_
  refine g_blk (pc' := 22) (loc' := [some (vR (8, 0, 0)), none, none]) (st' := [vI (-6 : Int32), vI (bestL (upd (upd f 4 (1 : Int32)) 3 (0 : Int32)) (-6 : Int32) 0 nr)]) (σ' := sa σ (upd (upd f 4 (1 : Int32)) 3 (0 : Int32))) fl5_ok [(20, .bipush (-6))] (by decide +kernel) rfl rfl ?_
  refine g_icmp_ne (off := 5) (tgt := 27) (by decide +kernel) (by decide) (fun zc22 => ?_) (fun zc22 => ?_)
  · refine g_blk (pc' := 29) (loc' := [some (vR (8, 0, 0)), some (vI (0 : Int32)), none]) (st' := []) (σ' := sa σ (upd (upd f 4 (1 : Int32)) 3 (0 : Int32))) fl5_ok [(27, .iconst 0), (28, .istore_n 1)] (by decide +kernel) rfl rfl ?_
    have hpl : planM f nr na = (gvM nr (plA na 0 (upd (upd f 4 1) 3 0) 0).2 (plA na 0 (upd (upd f 4 1) 3 0) 0).2 0 (plA na 0 (upd (upd f 4 1) 3 0) 0).1, (plA na 0 (upd (upd f 4 1) 3 0) 0).2) := by unfold planM; simp only; rw [if_neg zc22]
    rw [hpl]
    exact lp_X5_make l h8 h6 na 0 _ 0 (by omega) (by rw [up_ne (by decide), up_ne (by decide)]; exact hnr) (by rw [up_ne (by decide), up_ne (by decide)]; exact hna) up_at (by omega) (fun j hj => by rw [ma_up (by decide), ma_up (by decide)]; exact hp j hj) rfl
  · refine g_blk (pc' := 26) (loc' := [some (vR (8, 0, 0)), none, none]) (st' := [vI (0 : Int32)]) (σ' := sa σ (upd (upd f 4 (1 : Int32)) 3 (0 : Int32))) fl5_ok [(25, .iconst 0)] (by decide +kernel) rfl rfl ?_
    have hpl : planM f nr na = (upd (upd f 4 1) 3 0, 0) := by unfold planM; simp only; rw [if_pos zc22]
    rw [hpl]
    exact g_iret (by decide +kernel) ⟨rfl, rfl⟩
