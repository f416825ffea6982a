/-! THE MODEL: forecast, fairer (laid by wip/whole/mk43.py) -/
theorem endM_6 {f : Nat → Int32} {who : Nat → Nat} {nr na nt : Nat} : endM f who nr na nt 6 = f 6 + (skF who nt 0 f 0).2 := by
  unfold endM
  rw [up_ne (by decide), up_ne (by decide), gwF_lo (by decide), dcF_lo (by decide), up_ne (by decide), up_ne (by decide), up_at, skF_lo (by decide)]
theorem up_self (f : Nat → Int32) (k : Nat) : upd f k (f k) = f := by
  funext i
  by_cases q : i = k
  · rw [q]; exact up_at
  · exact up_ne q
theorem end_up {f : Nat → Int32} {who : Nat → Nat} {nr na nt : Nat} : upd (endM f who nr na nt) 6 (f 6 + (skF who nt 0 f 0).2) = endM f who nr na nt := by
  rw [← endM_6, up_self]
theorem fc_aside {S : HA} {Hs : List HA} {P : PV} {n : Nat} {f : Nat → Int32} {σ τ : Sg} (h : Mq_ S Hs P n f σ) (hc : CP (9, 1, 0) 0 ((sa σ f).1 (9, 0, 0)) 162 (sa σ f) τ) : τ = sa τ f ∧ Mq_ S Hs P n f τ ∧ FrM σ τ ∧ ∀ k, k < 162 → τ.1 (9, 1, 0) k = f k := by
  have eo : ∀ z : Lo, z ≠ (9, 1, 0) → τ.1 z = (sa σ f).1 z := fun z hz => hc.1.1 z hz
  have e9 : τ.1 (9, 0, 0) = f := (eo _ (by simp)).trans (sa_at σ f)
  have s := sa_self τ
  rw [e9] at s
  refine ⟨s.symm, h.sa.fr (by rw [eo _ (by simp)]) (by rw [eo _ (by simp)]) (eo _ (by simp)) (eo _ (by simp)), FrM.sa.tr ⟨fun q hq => eo q (fun z => by rw [z] at hq; exact absurd hq (by decide)), hc.1.2⟩, fun k hk => ?_⟩
  have := cp_in hc hk
  rw [Nat.zero_add, sa_at] at this
  exact this
theorem fc_back {S : HA} {Hs : List HA} {P : PV} {n : Nat} {f g : Nat → Int32} {τ σ' : Sg} (h : Mq_ S Hs P n f τ) (ha : ∀ k, k < 162 → τ.1 (9, 1, 0) k = f k) (hc : CP (9, 0, 0) 0 ((sa τ g).1 (9, 1, 0)) 162 (sa τ g) σ') : ∃ τ' f', σ' = sa τ' f' ∧ Mq_ S Hs P n f' τ' ∧ FrM τ τ' := by
  have eo : ∀ z : Lo, z ≠ (9, 0, 0) → σ'.1 z = τ.1 z := fun z hz => (hc.1.1 z hz).trans (sa_ne τ g hz)
  refine ⟨σ', σ'.1 (9, 0, 0), (sa_self σ').symm, ?_, ⟨fun q hq => eo q (fun z => by rw [z] at hq; exact absurd hq (by decide)), hc.1.2⟩⟩
  have h2 := h.fr (τ := σ') (by rw [eo _ (by simp)]) (by rw [eo _ (by simp)]) (eo _ (by simp)) (eo _ (by simp))
  refine ⟨ED_congr h2.1 (fun k hk => ?_), h2.2⟩
  have := cp_in hc hk
  rw [Nat.zero_add, sa_ne τ g (by simp)] at this
  exact this.trans (ha k hk)
set_option maxHeartbeats 2000000 in
theorem lp_X5_fc2 (l : Launch) {σ : Sg} {u w had i : Int32} {n nt : Nat} {post : Option AV → Sg → Prop} (hnt12 : nt ≤ 12) : ∀ (k t : Nat) (d : Int32) (f : Nat → Int32) (S : HA), t + k = nt → sz S 2 = nt → ED S f → V S n → (∀ f', ED (gF k t S) f' → V (gF k t S) n → G l (Rm 5) RX5 cX5_forecast 8 (some .int) post 133 [some (vR (8, 0, 0)), some (vI u), some (vI w), some (vI had), some (vI (dq k t S d)), some (vI i), some (vI (nI nt)), none] [] (sa σ f')) → G l (Rm 5) RX5 cX5_forecast 8 (some .int) (post) 85 [some (vR (8, 0, 0)), some (vI u), some (vI w), some (vI had), some (vI d), some (vI i), some (vI (nI nt)), some (vI (nI t))] [] (sa σ f) := by
  intro k
  induction k with
  | zero =>
    intro t d f S hk hs hE hV kk
    obtain ⟨hb0, hb1, hb2, hb3⟩ := hE.1
    have hnr := hE.2.2.1.1
    have hna := hE.2.2.1.2.1
    have hnt := hE.2.2.1.2.2.1
    have hns := hE.2.2.1.2.2.2
    have hK3 := hE.2.2.2.2.2.2.1
    refine g_blk (pc' := 89) (loc' := [some (vR (8, 0, 0)), some (vI u), some (vI w), some (vI had), some (vI d), some (vI i), some (vI (nI nt)), some (vI (nI t))]) (st' := [vI (nI nt), vI (nI t)]) (σ' := sa σ f) fl5_ok [(85, .iload 7), (87, .iload 6)] (by decide +kernel) rfl rfl ?_
    refine g_icmp_ge (off := 44) (tgt := 133) (by decide +kernel) (by decide) (fun zc89 => ?_) (fun zc89 => ?_)
    · rw [nI_leI (by omega) (by omega)] at zc89
      exact g_sub (loc' := [some (vR (8, 0, 0)), some (vI u), some (vI w), some (vI had), some (vI d), some (vI i), some (vI (nI nt)), none]) ⟨Or.inr rfl, Or.inr rfl, Or.inr rfl, Or.inr rfl, Or.inr rfl, Or.inr rfl, Or.inr rfl, Or.inl rfl, trivial⟩ (kk f hE hV)
    · rw [nI_leI (by omega) (by omega)] at zc89
      exact absurd (by omega) zc89
  | succ k ih =>
    intro t d f S hk hs hE hV kk
    obtain ⟨hb0, hb1, hb2, hb3⟩ := hE.1
    have hnr := hE.2.2.1.1
    have hna := hE.2.2.1.2.1
    have hnt := hE.2.2.1.2.2.1
    have hns := hE.2.2.1.2.2.2
    have hK3 := hE.2.2.2.2.2.2.1
    have htl : t < sz S 2 := by omega
    refine g_blk (pc' := 89) (loc' := [some (vR (8, 0, 0)), some (vI u), some (vI w), some (vI had), some (vI d), some (vI i), some (vI (nI nt)), some (vI (nI t))]) (st' := [vI (nI nt), vI (nI t)]) (σ' := sa σ f) fl5_ok [(85, .iload 7), (87, .iload 6)] (by decide +kernel) rfl rfl ?_
    refine g_icmp_ge (off := 44) (tgt := 133) (by decide +kernel) (by decide) (fun zc89 => ?_) (fun zc89 => ?_)
    · rw [nI_leI (by omega) (by omega)] at zc89
      exact absurd zc89 (by omega)
    · rw [nI_leI (by omega) (by omega)] at zc89
      refine g_blk (pc' := 96) (loc' := [some (vR (8, 0, 0)), some (vI u), some (vI w), some (vI had), some (vI d), some (vI i), some (vI (nI nt)), some (vI (nI t))]) (st' := [vI (3 : Int32), vI (nI t), vR (8, 0, 0)]) (σ' := sa σ f) fl5_ok [(92, .aload_n 0), (93, .iload 7), (95, .iconst 3)] (by decide +kernel) rfl rfl ?_
      refine g_callVp (8, 0, 0) [vI (nI t), vI (3 : Int32)] [] vl_RX5_65 mi_X5_ofTask (c_X5_ofTask l (r := t) (c := 3) rfl rfl (by omega) (by omega)) rfl rfl rfl rfl ⟨Nat.le_of_ble_eq_true rfl, Nat.le_of_ble_eq_true rfl⟩ rfl (Nat.le_of_ble_eq_true rfl) (by decide +kernel) ?_
      refine g_if_ne (off := 28) (tgt := 127) (by decide +kernel) (by decide) (fun zc99 => ?_) (fun zc99 => ?_)
      · refine g_blk (pc' := 85) (loc' := [some (vR (8, 0, 0)), some (vI u), some (vI w), some (vI had), some (vI d), some (vI i), some (vI (nI nt)), some (vI ((nI t) + (1 : Int32)))]) (st' := []) (σ' := sa σ f) fl5_ok [(127, .iinc 7 1), (130, .goto (-45))] (by decide +kernel) rfl rfl ?_
        have hop : openS S (nI t) = 0 := by rw [open_n (by omega) htl, if_neg (by rw [← hK3 t 3 htl (by decide)]; exact zc99)]
        rw [gF, if_pos hop, dq, if_pos hop, if_pos hop] at kk
        rw [nI_1]
        exact ih (t + 1) d f S (by omega) hs hE hV kk
      · refine g_blk (pc' := 108) (loc' := [some (vR (8, 0, 0)), some (vI u), some (vI w), some (vI had), some (vI d), some (vI i), some (vI (nI nt)), some (vI (nI t))]) (st' := [vI (4 : Int32), vI (nI t), vR (8, 0, 0), vI d]) (σ' := sa σ f) fl5_ok [(102, .iload 4), (104, .aload_n 0), (105, .iload 7), (107, .iconst 4)] (by decide +kernel) rfl rfl ?_
        refine g_callVp (8, 0, 0) [vI (nI t), vI (4 : Int32)] [vI d] vl_RX5_65 mi_X5_ofTask (c_X5_ofTask l (r := t) (c := 4) rfl rfl (by omega) (by omega)) rfl rfl rfl rfl ⟨Nat.le_of_ble_eq_true rfl, Nat.le_of_ble_eq_true rfl⟩ rfl (Nat.le_of_ble_eq_true rfl) (by decide +kernel) ?_
        refine g_blk (pc' := 121) (loc' := [some (vR (8, 0, 0)), some (vI u), some (vI w), some (vI had), some (vI (d + (mk f t 4))), some (vI i), some (vI (nI nt)), some (vI (nI t))]) (st' := [vI (nI t), vR (8, 0, 0), vI (2 : Int32), vI (nI t), vR (8, 0, 0)]) (σ' := sa σ f) fl5_ok [(111, .iadd), (112, .istore 4), (114, .aload_n 0), (115, .iload 7), (117, .iconst 2), (118, .aload_n 0), (119, .iload 7)] (by decide +kernel) rfl rfl ?_
        have ho : ce S 2 t 3 = 0 := by rw [← hK3 t 3 htl (by decide)]; exact zc99
        have hop : ¬ openS S (nI t) = 0 := by rw [open_n (by omega) htl, if_pos ho]; decide
        obtain ⟨r, a, hr, ha, hkr, hka, fE, fV, f2, -⟩ := fin_ok hE hV htl ho
        refine g_callV (8, 0, 0) [vI (nI t)] [vI (2 : Int32), vI (nI t), vR (8, 0, 0)] vl_RX5_115 mi_X5_finish (c_X5_finish l (t := t) (nt := sz S 2) (ns := sz S 3) (r := r) (a := a) rfl (by omega) hnt hb2 hns hb3 hkr hr hka ha) rfl rfl rfl rfl ⟨Nat.le_of_ble_eq_true rfl, Nat.le_of_ble_eq_true rfl⟩ rfl (Nat.le_of_ble_eq_true rfl) (by decide +kernel) (fun o σ1 hP => ?_)
        obtain ⟨rfl, rfl⟩ := hP
        refine g_callV (8, 0, 0) [vI (nI t), vI (2 : Int32), vI (mk (finM f (sz S 2) (sz S 3) t r a).1 t 2)] [] vl_RX5_68 mi_X5_layTask (c_X5_layTask l (r := t) (c := 2) (mk (finM f (sz S 2) (sz S 3) t r a).1 t 2) rfl rfl (by omega) (by omega)) rfl rfl rfl rfl ⟨Nat.le_of_ble_eq_true rfl, Nat.le_of_ble_eq_true rfl⟩ rfl (Nat.le_of_ble_eq_true rfl) (by decide +kernel) (fun o σ2 hP => ?_)
        obtain ⟨rfl, rfl⟩ := hP
        refine g_blk (pc' := 85) (loc' := [some (vR (8, 0, 0)), some (vI u), some (vI w), some (vI had), some (vI (d + (mk f t 4))), some (vI i), some (vI (nI nt)), some (vI ((nI t) + (1 : Int32)))]) (st' := []) (σ' := sa σ (sk ((finM f (sz S 2) (sz S 3) t r a).1) t 2 (mk (finM f (sz S 2) (sz S 3) t r a).1 t 2))) fl5_ok [(127, .iinc 7 1), (130, .goto (-45))] (by decide +kernel) rfl rfl ?_
        rw [gF, if_neg hop, dq, if_neg hop, if_neg hop] at kk
        rw [nI_1, sk_self, hK3 t 4 htl (by decide)]
        exact ih (t + 1) _ _ _ (by omega) ((sz_fin S _).trans hs) fE fV kk
set_option maxHeartbeats 2000000 in
theorem lp_X5_fc1 (l : Launch) {σ : Sg} {w had : Int32} {m N : Nat} {Q : HA × Int32} {post : Option AV → Sg → Prop} (hm : m ≤ 60) (kk : ∀ f', ED Q.1 f' → V Q.1 N → G l (Rm 5) RX5 cX5_forecast 8 (some .int) post 153 [some (vR (8, 0, 0)), some (vI (nI m)), some (vI w), some (vI had), some (vI Q.2), none, none, none] [] (sa σ f')) : ∀ (k i : Nat) (d : Int32) (f : Nat → Int32) (S : HA) (n : Nat), i + k = m → ED S f → V S n → n + 1440 * k ≤ N → fcF k S d = Q → G l (Rm 5) RX5 cX5_forecast 8 (some .int) (post) 39 [some (vR (8, 0, 0)), some (vI (nI m)), some (vI w), some (vI had), some (vI d), some (vI (nI i)), none, none] [] (sa σ f) := by
  intro k
  induction k with
  | zero =>
    intro i d f S n hk hE hV hN hd
    obtain ⟨hb0, hb1, hb2, hb3⟩ := hE.1
    have hnr := hE.2.2.1.1
    have hna := hE.2.2.1.2.1
    have hnt := hE.2.2.1.2.2.1
    have hns := hE.2.2.1.2.2.2
    have hK3 := hE.2.2.2.2.2.2.1
    refine g_blk (pc' := 42) (loc' := [some (vR (8, 0, 0)), some (vI (nI m)), some (vI w), some (vI had), some (vI d), some (vI (nI i)), none, none]) (st' := [vI (nI m), vI (nI i)]) (σ' := sa σ f) fl5_ok [(39, .iload 5), (41, .iload_n 1)] (by decide +kernel) rfl rfl ?_
    refine g_icmp_ge (off := 111) (tgt := 153) (by decide +kernel) (by decide) (fun zc42 => ?_) (fun zc42 => ?_)
    · rw [nI_leI (by omega) (by omega)] at zc42
      have hd : (S, d) = Q := hd
      subst hd
      exact g_sub (loc' := [some (vR (8, 0, 0)), some (vI (nI m)), some (vI w), some (vI had), some (vI d), none, none, none]) ⟨Or.inr rfl, Or.inr rfl, Or.inr rfl, Or.inr rfl, Or.inr rfl, Or.inl rfl, Or.inl rfl, Or.inl rfl, trivial⟩ (kk f hE (hV.le (by omega)))
    · rw [nI_leI (by omega) (by omega)] at zc42
      exact absurd (by omega) zc42
  | succ k ih =>
    intro i d f S n hk hE hV hN hd
    obtain ⟨hb0, hb1, hb2, hb3⟩ := hE.1
    have hnr := hE.2.2.1.1
    have hna := hE.2.2.1.2.1
    have hnt := hE.2.2.1.2.2.1
    have hns := hE.2.2.1.2.2.2
    have hK3 := hE.2.2.2.2.2.2.1
    refine g_blk (pc' := 42) (loc' := [some (vR (8, 0, 0)), some (vI (nI m)), some (vI w), some (vI had), some (vI d), some (vI (nI i)), none, none]) (st' := [vI (nI m), vI (nI i)]) (σ' := sa σ f) fl5_ok [(39, .iload 5), (41, .iload_n 1)] (by decide +kernel) rfl rfl ?_
    refine g_icmp_ge (off := 111) (tgt := 153) (by decide +kernel) (by decide) (fun zc42 => ?_) (fun zc42 => ?_)
    · rw [nI_leI (by omega) (by omega)] at zc42
      exact absurd zc42 (by omega)
    · rw [nI_leI (by omega) (by omega)] at zc42
      refine g_blk (pc' := 54) (loc' := [some (vR (8, 0, 0)), some (vI (nI m)), some (vI w), some (vI had), some (vI d), some (vI (nI i)), none, none]) (st' := [vI (999 : Int32), vI (f 0)]) (σ' := sa σ f) fl5_ok [(45, .aload_n 0), (46, .getfield 7), (49, .iconst 0), (50, .iaload), (51, .sipush 999)] (by decide +kernel) rfl rfl ?_
      refine g_icmp_ge (off := 99) (tgt := 153) (by decide +kernel) (by decide) (fun zc54 => ?_) (fun zc54 => ?_)
      · have h05 : f 0 = S.2 5 := hE.2.1.1
        rw [h05] at zc54
        rw [fcF, if_pos zc54] at hd
        have hd : (S, d) = Q := hd
        subst hd
        exact g_sub (loc' := [some (vR (8, 0, 0)), some (vI (nI m)), some (vI w), some (vI had), some (vI d), none, none, none]) ⟨Or.inr rfl, Or.inr rfl, Or.inr rfl, Or.inr rfl, Or.inr rfl, Or.inl rfl, Or.inl rfl, Or.inl rfl, trivial⟩ (kk f hE (hV.le (by omega)))
      · have h05 : f 0 = S.2 5 := hE.2.1.1
        rw [h05] at zc54
        rw [fcF, if_neg zc54] at hd
        refine g_blk (pc' := 64) (loc' := [some (vR (8, 0, 0)), some (vI (nI m)), some (vI w), some (vI had), some (vI d), some (vI (nI i)), none, none]) (st' := [vI (1 : Int32), vI (f 4)]) (σ' := sa σ f) fl5_ok [(57, .aload_n 0), (58, .getfield 7), (61, .iconst 4), (62, .iaload), (63, .iconst 1)] (by decide +kernel) rfl rfl ?_
        refine g_icmp_ne (off := 12) (tgt := 76) (by decide +kernel) (by decide) (fun zc64 => ?_) (fun zc64 => ?_)
        · have h4 : f 4 = S.2 6 := hE.2.1.2.1
          have z6 : S.2 6 = 0 := hV.1.1.1.resolve_right (fun z => zc64 (h4.trans z))
          rw [if_neg (not_not_intro z6)] at hd
          refine g_blk (pc' := 77) (loc' := [some (vR (8, 0, 0)), some (vI (nI m)), some (vI w), some (vI had), some (vI d), some (vI (nI i)), none, none]) (st' := [vR (8, 0, 0)]) (σ' := sa σ f) fl5_ok [(76, .aload_n 0)] (by decide +kernel) rfl rfl ?_
          refine g_callV (8, 0, 0) [] [] vl_RX5_92 mi_X5_makePlan (c_X5_makePlan l (nr := sz S 0) (na := sz S 1) hnr hb0 hna hb1 (per_ne hE hV)) rfl rfl rfl rfl ⟨Nat.le_of_ble_eq_true rfl, Nat.le_of_ble_eq_true rfl⟩ rfl (Nat.le_of_ble_eq_true rfl) (by decide +kernel) (fun o σ1 hP => ?_)
          obtain ⟨rfl, rfl⟩ := hP
          refine g_blk (pc' := 85) (loc' := [some (vR (8, 0, 0)), some (vI (nI m)), some (vI w), some (vI had), some (vI d), some (vI (nI i)), some (vI (nI (planM f (sz S 0) (sz S 1)).2)), some (vI (0 : Int32))]) (st' := []) (σ' := sa σ ((planM f (sz S 0) (sz S 1)).1)) fl5_ok [(80, .istore 6), (82, .iconst 0), (83, .istore 7)] (by decide +kernel) rfl rfl ?_
          obtain ⟨pE, pV, p2, p3⟩ := plan_ok hE hV (hV.1.1.2 z6)
          have h55 : (planS S).2 5 = S.2 5 := by rw [p3]; exact F_ne (by decide)
          rw [p2]
          generalize planS S = S1 at pE pV h55 hd ⊢
          generalize (planM f (sz S 0) (sz S 1)).1 = f1 at pE ⊢
          have h12 := pE.1.2.2.1
          obtain ⟨wk, hw9, hwk⟩ := hV.1.2.2.2
          have hlt : wk < 999 := by
            rcases Nat.lt_or_ge wk 999 with q | q
            · exact q
            · exact absurd (by rw [hwk]; exact nI_le (a := 999) q (by omega)) zc54
          have hdq := dq_eq (S0 := S1) (d0 := d) (sz S1 2) 0 S1 f1 (n + 720) pE pV (by omega) (fun u _ hu => ⟨rfl, rfl, cl4 (by omega)⟩)
          rw [show d + cntDL S1 0 = d from Int32.add_zero d, Nat.zero_add] at hdq
          rw [← hdq, fin_all h12] at hd
          refine lp_X5_fc2 l h12 (sz S1 2) 0 d f1 S1 (by omega) rfl pE pV (fun f' E2 V2 => ?_)
          have w2 : (gF (sz S1 2) 0 S1).2 5 = nI wk := by rw [gF_5, h55, hwk]
          generalize gF (sz S1 2) 0 S1 = S2 at E2 V2 w2 hd
          generalize dq (sz S1 2) 0 S1 d = d2 at hd ⊢
          refine g_blk (pc' := 142) (loc' := [some (vR (8, 0, 0)), some (vI (nI m)), some (vI w), some (vI had), some (vI d2), some (vI (nI i)), some (vI (nI (sz S1 2))), none]) (st' := [vR (8, 0, 0), vI (f' 6), vI (6 : Int32), vR (9, 0, 0)]) (σ' := sa σ f') fl5_ok [(133, .aload_n 0), (134, .getfield 7), (137, .bipush 6), (139, .dup2), (140, .iaload), (141, .aload_n 0)] (by decide +kernel) rfl rfl ?_
          obtain ⟨who, hwho⟩ := who_ok V2
          refine g_callV (8, 0, 0) [] [vI (f' 6), vI (6 : Int32), vR (9, 0, 0)] vl_RX5_121 mi_X5_makeEnd (c_X5_makeEnd l (who := who) (nr := sz S2 0) (na := sz S2 1) (nt := sz S2 2) E2.2.2.1.1 E2.1.1 E2.2.2.1.2.1 E2.1.2.1 E2.2.2.1.2.2.1 E2.1.2.2.1 (fun j hj _ => ⟨(E2.2.2.2.2.2.2.1 j 1 hj (by decide)).trans (hwho j hj).1, by have := (hwho j hj).2; have := E2.1.1; omega⟩)) rfl rfl rfl rfl ⟨Nat.le_of_ble_eq_true rfl, Nat.le_of_ble_eq_true rfl⟩ rfl (Nat.le_of_ble_eq_true rfl) (by decide +kernel) (fun o σ2 hP => ?_)
          obtain ⟨rfl, rfl⟩ := hP
          refine g_blk (pc' := 146) (loc' := [some (vR (8, 0, 0)), some (vI (nI m)), some (vI w), some (vI had), some (vI d2), some (vI (nI i)), some (vI (nI (sz S1 2))), none]) (st' := [vI ((f' 6) + ((skF who (sz S2 2) 0 f' 0).2)), vI (6 : Int32), vR (9, 0, 0)]) (σ' := sa σ (endM f' who (sz S2 0) (sz S2 1) (sz S2 2))) fl5_ok [(145, .iadd)] (by decide +kernel) rfl rfl ?_
          refine g_sst (k := 6) rfl (by omega) (by decide +kernel) ?_
          refine g_blk (pc' := 39) (loc' := [some (vR (8, 0, 0)), some (vI (nI m)), some (vI w), some (vI had), some (vI d2), some (vI ((nI i) + (1 : Int32))), some (vI (nI (sz S1 2))), none]) (st' := []) (σ' := sa σ (upd (endM f' who (sz S2 0) (sz S2 1) (sz S2 2)) 6 ((f' 6) + ((skF who (sz S2 2) 0 f' 0).2)))) fl5_ok [(147, .iinc 5 1), (150, .goto (-111))] (by decide +kernel) rfl rfl ?_
          obtain ⟨eE, eV, -⟩ := end_ok E2 V2 w2 hlt hwho
          rw [nI_1, end_up]
          exact g_sub (loc' := [some (vR (8, 0, 0)), some (vI (nI m)), some (vI w), some (vI had), some (vI d2), some (vI (nI (i + 1))), none, none]) ⟨Or.inr rfl, Or.inr rfl, Or.inr rfl, Or.inr rfl, Or.inr rfl, Or.inr rfl, Or.inl rfl, Or.inl rfl, trivial⟩ (ih (i + 1) d2 _ (endS S2) (n + 1440) (by omega) eE eV (by omega) hd)
        · have h4 : f 4 = S.2 6 := hE.2.1.2.1
          have z6 : ¬ S.2 6 = 0 := by rw [← h4, zc64]; decide
          rw [if_pos z6] at hd
          refine g_blk (pc' := 85) (loc' := [some (vR (8, 0, 0)), some (vI (nI m)), some (vI w), some (vI had), some (vI d), some (vI (nI i)), some (vI (f 3)), some (vI (0 : Int32))]) (st' := []) (σ' := sa σ f) fl5_ok [(67, .aload_n 0), (68, .getfield 7), (71, .iconst 3), (72, .iaload), (73, .goto 7), (80, .istore 6), (82, .iconst 0), (83, .istore 7)] (by decide +kernel) rfl rfl ?_
          have pE := hE
          have pV := hV.le (show n ≤ n + 720 by omega)
          have h55 : S.2 5 = S.2 5 := rfl
          rw [hnt]
          have h12 := pE.1.2.2.1
          obtain ⟨wk, hw9, hwk⟩ := hV.1.2.2.2
          have hlt : wk < 999 := by
            rcases Nat.lt_or_ge wk 999 with q | q
            · exact q
            · exact absurd (by rw [hwk]; exact nI_le (a := 999) q (by omega)) zc54
          have hdq := dq_eq (S0 := S) (d0 := d) (sz S 2) 0 S f (n + 720) pE pV (by omega) (fun u _ hu => ⟨rfl, rfl, cl4 (by omega)⟩)
          rw [show d + cntDL S 0 = d from Int32.add_zero d, Nat.zero_add] at hdq
          rw [← hdq, fin_all h12] at hd
          refine lp_X5_fc2 l h12 (sz S 2) 0 d f S (by omega) rfl pE pV (fun f' E2 V2 => ?_)
          have w2 : (gF (sz S 2) 0 S).2 5 = nI wk := by rw [gF_5, h55, hwk]
          generalize gF (sz S 2) 0 S = S2 at E2 V2 w2 hd
          generalize dq (sz S 2) 0 S d = d2 at hd ⊢
          refine g_blk (pc' := 142) (loc' := [some (vR (8, 0, 0)), some (vI (nI m)), some (vI w), some (vI had), some (vI d2), some (vI (nI i)), some (vI (nI (sz S 2))), none]) (st' := [vR (8, 0, 0), vI (f' 6), vI (6 : Int32), vR (9, 0, 0)]) (σ' := sa σ f') fl5_ok [(133, .aload_n 0), (134, .getfield 7), (137, .bipush 6), (139, .dup2), (140, .iaload), (141, .aload_n 0)] (by decide +kernel) rfl rfl ?_
          obtain ⟨who, hwho⟩ := who_ok V2
          refine g_callV (8, 0, 0) [] [vI (f' 6), vI (6 : Int32), vR (9, 0, 0)] vl_RX5_121 mi_X5_makeEnd (c_X5_makeEnd l (who := who) (nr := sz S2 0) (na := sz S2 1) (nt := sz S2 2) E2.2.2.1.1 E2.1.1 E2.2.2.1.2.1 E2.1.2.1 E2.2.2.1.2.2.1 E2.1.2.2.1 (fun j hj _ => ⟨(E2.2.2.2.2.2.2.1 j 1 hj (by decide)).trans (hwho j hj).1, by have := (hwho j hj).2; have := E2.1.1; omega⟩)) rfl rfl rfl rfl ⟨Nat.le_of_ble_eq_true rfl, Nat.le_of_ble_eq_true rfl⟩ rfl (Nat.le_of_ble_eq_true rfl) (by decide +kernel) (fun o σ3 hP => ?_)
          obtain ⟨rfl, rfl⟩ := hP
          refine g_blk (pc' := 146) (loc' := [some (vR (8, 0, 0)), some (vI (nI m)), some (vI w), some (vI had), some (vI d2), some (vI (nI i)), some (vI (nI (sz S 2))), none]) (st' := [vI ((f' 6) + ((skF who (sz S2 2) 0 f' 0).2)), vI (6 : Int32), vR (9, 0, 0)]) (σ' := sa σ (endM f' who (sz S2 0) (sz S2 1) (sz S2 2))) fl5_ok [(145, .iadd)] (by decide +kernel) rfl rfl ?_
          refine g_sst (k := 6) rfl (by omega) (by decide +kernel) ?_
          refine g_blk (pc' := 39) (loc' := [some (vR (8, 0, 0)), some (vI (nI m)), some (vI w), some (vI had), some (vI d2), some (vI ((nI i) + (1 : Int32))), some (vI (nI (sz S 2))), none]) (st' := []) (σ' := sa σ (upd (endM f' who (sz S2 0) (sz S2 1) (sz S2 2)) 6 ((f' 6) + ((skF who (sz S2 2) 0 f' 0).2)))) fl5_ok [(147, .iinc 5 1), (150, .goto (-111))] (by decide +kernel) rfl rfl ?_
          obtain ⟨eE, eV, -⟩ := end_ok E2 V2 w2 hlt hwho
          rw [nI_1, end_up]
          exact g_sub (loc' := [some (vR (8, 0, 0)), some (vI (nI m)), some (vI w), some (vI had), some (vI d2), some (vI (nI (i + 1))), none, none]) ⟨Or.inr rfl, Or.inr rfl, Or.inr rfl, Or.inr rfl, Or.inr rfl, Or.inr rfl, Or.inl rfl, Or.inl rfl, trivial⟩ (ih (i + 1) d2 _ (endS S2) (n + 1440) (by omega) eE eV (by omega) hd)
set_option maxHeartbeats 2000000 in
theorem m_forecast (l : Launch) {σ : Sg} {f : Nat → Int32} {S : HA} {Hs : List HA} {P : PV} {n : Nat} (h : Mq_ S Hs P n f σ) (hn : n ≤ 1000000) (u w : Int32) : Con l 5 yX5_forecast cX5_forecast 8 (some .int) [vR (8, 0, 0), vI u, vI w] (sa σ f) (Mp_ (xforecast S u w, ((S, (Hs, P)) : XS)) n σ) := by
  obtain ⟨hE, hV, ⟨h3, h6⟩, hA, h5, hP⟩ := id h
  obtain ⟨hb0, hb1, hb2, hb3⟩ := hE.1
  have hnr := hE.2.2.1.1
  have hna := hE.2.2.1.2.1
  have hnt := hE.2.2.1.2.2.1
  have hns := hE.2.2.1.2.2.2
  refine con_of pn_X5_forecast (Nat.le_of_ble_eq_true rfl) (fun hPK hok => ?_)
  show G l (Rm 5) RX5 cX5_forecast 8 (some .int) _ 0 [some (vR (8, 0, 0)), some (vI u), some (vI w), none, none, none, none, none] [] (sa σ f)
  refine g_blk (pc' := 4) (loc' := [some (vR (8, 0, 0)), some (vI u), some (vI w), none, none, none, none, none]) (st' := [vI (60 : Int32), vI (0 : Int32), vI u]) (σ' := sa σ f) fl5_ok [(0, .iload_n 1), (1, .iconst 0), (2, .bipush 60)] (by decide +kernel) rfl rfl ?_
  refine g_callSp [vI u, vI (0 : Int32), vI (60 : Int32)] [] sl_RX5_29 mi_X5_in (c_X5_in l u (0 : Int32) (60 : Int32)) rfl ⟨Nat.le_of_ble_eq_true rfl, Nat.le_of_ble_eq_true rfl⟩ rfl (Nat.le_of_ble_eq_true rfl) (by decide +kernel) ?_
  refine g_if_eq (off := 12) (tgt := 19) (by decide +kernel) (by decide) (fun zc7 => ?_) (fun zc7 => ?_)
  · refine g_blk (pc' := 21) (loc' := [some (vR (8, 0, 0)), some (vI u), some (vI w), none, none, none, none, none]) (st' := [vI (-2 : Int32)]) (σ' := sa σ f) fl5_ok [(19, .bipush (-2))] (by decide +kernel) rfl rfl ?_
    have hx : xforecast S u w = -2 := by rw [xforecast, if_pos zc7]
    rw [hx]
    exact g_iret (by decide +kernel) ⟨rfl, σ, f, rfl, h.le (by omega), FrM.rf⟩
  · obtain ⟨m, -, hm60, rfl⟩ := in_nat (a := 0) (b := 60) (by decide) (by decide) zc7
    refine g_blk (pc' := 13) (loc' := [some (vR (8, 0, 0)), some (vI (nI m)), some (vI w), none, none, none, none, none]) (st' := [vI (3 : Int32), vI (0 : Int32), vI w]) (σ' := sa σ f) fl5_ok [(10, .iload_n 2), (11, .iconst 0), (12, .iconst 3)] (by decide +kernel) rfl rfl ?_
    refine g_callSp [vI w, vI (0 : Int32), vI (3 : Int32)] [] sl_RX5_29 mi_X5_in (c_X5_in l w (0 : Int32) (3 : Int32)) rfl ⟨Nat.le_of_ble_eq_true rfl, Nat.le_of_ble_eq_true rfl⟩ rfl (Nat.le_of_ble_eq_true rfl) (by decide +kernel) ?_
    refine g_if_ne (off := 6) (tgt := 22) (by decide +kernel) (by decide) (fun zc16 => ?_) (fun zc16 => ?_)
    · obtain ⟨j, -, hj, rfl⟩ := in_nat (a := 0) (b := 3) (by decide) (by decide) zc16
      match j, hj with
      | 0, hj =>
        have ej : nI 0 = (0 : Int32) := rfl
        rw [ej] at zc16 ⊢
        refine g_blk (pc' := 23) (loc' := [some (vR (8, 0, 0)), some (vI (nI m)), some (vI (0 : Int32)), none, none, none, none, none]) (st' := [vR (8, 0, 0)]) (σ' := sa σ f) fl5_ok [(22, .aload_n 0)] (by decide +kernel) rfl rfl ?_
        refine g_callV (8, 0, 0) [] [] vl_RX5_145 mi_X5_putAside (c_X5_putAside l (σ := sa σ f)) rfl rfl rfl rfl ⟨Nat.le_of_ble_eq_true rfl, Nat.le_of_ble_eq_true rfl⟩ rfl (Nat.le_of_ble_eq_true rfl) (by decide +kernel) (fun o τ hP0 => ?_)
        obtain ⟨rfl, hc⟩ := hP0
        obtain ⟨es, h1, hF, hA1⟩ := fc_aside h hc
        rw [es]
        refine g_blk (pc' := 39) (loc' := [some (vR (8, 0, 0)), some (vI (nI m)), some (vI (0 : Int32)), some (vI (f 5)), some (vI (0 : Int32)), some (vI (0 : Int32)), none, none]) (st' := []) (σ' := sa τ f) fl5_ok [(26, .aload_n 0), (27, .getfield 7), (30, .iconst 5), (31, .iaload), (32, .istore_n 3), (33, .iconst 0), (34, .istore 4), (36, .iconst 0), (37, .istore 5)] (by decide +kernel) rfl rfl ?_
        have hq : ∃ Q, fcF m S 0 = Q := ⟨_, rfl⟩
        obtain ⟨⟨Sq, dq2⟩, hq⟩ := hq
        refine g_sub (loc' := [some (vR (8, 0, 0)), some (vI (nI m)), some (vI (0 : Int32)), some (vI (f 5)), some (vI (0 : Int32)), some (vI (nI 0)), none, none]) ⟨Or.inr rfl, Or.inr rfl, Or.inr rfl, Or.inr rfl, Or.inr rfl, Or.inr rfl, Or.inl rfl, Or.inl rfl, trivial⟩ (lp_X5_fc1 l (Q := (Sq, dq2)) (N := n + 86400) hm60 (fun f' E' V' => ?_) m 0 0 f S n (by omega) hE hV (by omega) hq)
        refine g_blk (pc' := 154) (loc' := [some (vR (8, 0, 0)), some (vI (nI m)), some (vI (0 : Int32)), some (vI (f 5)), some (vI dq2), none, none, none]) (st' := [vI (0 : Int32)]) (σ' := sa τ f') fl5_ok [(153, .iload_n 2)] (by decide +kernel) rfl rfl ?_
        refine g_if_ne (off := 11) (tgt := 165) (by decide +kernel) (by decide) (fun zc154 => ?_) (fun zc154 => ?_)
        · exact absurd zc154 (by decide)
        · refine g_blk (pc' := 159) (loc' := [some (vR (8, 0, 0)), some (vI (nI m)), some (vI (0 : Int32)), some (vI (f 5)), some (vI dq2), none, none, none]) (st' := [vI (0 : Int32), vR (8, 0, 0)]) (σ' := sa τ f') fl5_ok [(157, .aload_n 0), (158, .iconst 0)] (by decide +kernel) rfl rfl ?_
          refine g_callVp (8, 0, 0) [vI (0 : Int32)] [] vl_RX5_138 mi_X5_spread (c_X5_spread l (nr := sz Sq 0) (nt := sz Sq 2) (0 : Int32) E'.2.2.1.1 E'.1.1 E'.2.2.1.2.2.1 E'.1.2.2.1 (wt_ne E' V')) rfl rfl rfl rfl ⟨Nat.le_of_ble_eq_true rfl, Nat.le_of_ble_eq_true rfl⟩ rfl (Nat.le_of_ble_eq_true rfl) (by decide +kernel) ?_
          refine g_blk (pc' := 198) (loc' := [some (vR (8, 0, 0)), some (vI (nI m)), some (vI (0 : Int32)), some (vI (f 5)), some (vI dq2), some (vI (sprM f' (0 : Int32) (sz Sq 2) (sz Sq 0))), none, none]) (st' := [vR (8, 0, 0)]) (σ' := sa τ f') fl5_ok [(162, .goto 33), (195, .istore 5), (197, .aload_n 0)] (by decide +kernel) rfl rfl ?_
          refine g_callV (8, 0, 0) [] [] vl_RX5_151 mi_X5_putBack (c_X5_putBack l (σ := sa τ f')) rfl rfl rfl rfl ⟨Nat.le_of_ble_eq_true rfl, Nat.le_of_ble_eq_true rfl⟩ rfl (Nat.le_of_ble_eq_true rfl) (by decide +kernel) (fun o σ2 hP2 => ?_)
          obtain ⟨rfl, hc2⟩ := hP2
          obtain ⟨τ2, f2, e1, e2, e3⟩ := fc_back h1 hA1 hc2
          refine g_blk (pc' := 203) (loc' := [some (vR (8, 0, 0)), some (vI (nI m)), some (vI (0 : Int32)), some (vI (f 5)), some (vI dq2), some (vI (sprM f' (0 : Int32) (sz Sq 2) (sz Sq 0))), none, none]) (st' := [vI (sprM f' (0 : Int32) (sz Sq 2) (sz Sq 0))]) (σ' := σ2) fl5_ok [(201, .iload 5)] (by decide +kernel) rfl rfl ?_
          have hx : xforecast S (nI m) 0 = spreadS Sq 0 (-6) (-6) 0 := by
            rw [xforecast, if_neg zc7, if_pos zc16, nI_clamp (by omega), hq]
            exact sw_in (n := 3) (j := 0) (by decide) (by decide)
          rw [hx]
          exact g_iret (by decide +kernel) ⟨congrArg (fun z => some (vI z)) (spread_0 E' V' (by omega)), τ2, f2, e1, e2.le (by omega), hF.tr e3⟩
      | 1, hj =>
        have ej : nI 1 = (1 : Int32) := rfl
        rw [ej] at zc16 ⊢
        refine g_blk (pc' := 23) (loc' := [some (vR (8, 0, 0)), some (vI (nI m)), some (vI (1 : Int32)), none, none, none, none, none]) (st' := [vR (8, 0, 0)]) (σ' := sa σ f) fl5_ok [(22, .aload_n 0)] (by decide +kernel) rfl rfl ?_
        refine g_callV (8, 0, 0) [] [] vl_RX5_145 mi_X5_putAside (c_X5_putAside l (σ := sa σ f)) rfl rfl rfl rfl ⟨Nat.le_of_ble_eq_true rfl, Nat.le_of_ble_eq_true rfl⟩ rfl (Nat.le_of_ble_eq_true rfl) (by decide +kernel) (fun o τ hP0 => ?_)
        obtain ⟨rfl, hc⟩ := hP0
        obtain ⟨es, h1, hF, hA1⟩ := fc_aside h hc
        rw [es]
        refine g_blk (pc' := 39) (loc' := [some (vR (8, 0, 0)), some (vI (nI m)), some (vI (1 : Int32)), some (vI (f 5)), some (vI (0 : Int32)), some (vI (0 : Int32)), none, none]) (st' := []) (σ' := sa τ f) fl5_ok [(26, .aload_n 0), (27, .getfield 7), (30, .iconst 5), (31, .iaload), (32, .istore_n 3), (33, .iconst 0), (34, .istore 4), (36, .iconst 0), (37, .istore 5)] (by decide +kernel) rfl rfl ?_
        have hq : ∃ Q, fcF m S 0 = Q := ⟨_, rfl⟩
        obtain ⟨⟨Sq, dq2⟩, hq⟩ := hq
        refine g_sub (loc' := [some (vR (8, 0, 0)), some (vI (nI m)), some (vI (1 : Int32)), some (vI (f 5)), some (vI (0 : Int32)), some (vI (nI 0)), none, none]) ⟨Or.inr rfl, Or.inr rfl, Or.inr rfl, Or.inr rfl, Or.inr rfl, Or.inr rfl, Or.inl rfl, Or.inl rfl, trivial⟩ (lp_X5_fc1 l (Q := (Sq, dq2)) (N := n + 86400) hm60 (fun f' E' V' => ?_) m 0 0 f S n (by omega) hE hV (by omega) hq)
        refine g_blk (pc' := 154) (loc' := [some (vR (8, 0, 0)), some (vI (nI m)), some (vI (1 : Int32)), some (vI (f 5)), some (vI dq2), none, none, none]) (st' := [vI (1 : Int32)]) (σ' := sa τ f') fl5_ok [(153, .iload_n 2)] (by decide +kernel) rfl rfl ?_
        refine g_if_ne (off := 11) (tgt := 165) (by decide +kernel) (by decide) (fun zc154 => ?_) (fun zc154 => ?_)
        · refine g_blk (pc' := 167) (loc' := [some (vR (8, 0, 0)), some (vI (nI m)), some (vI (1 : Int32)), some (vI (f 5)), some (vI dq2), none, none, none]) (st' := [vI (1 : Int32), vI (1 : Int32)]) (σ' := sa τ f') fl5_ok [(165, .iload_n 2), (166, .iconst 1)] (by decide +kernel) rfl rfl ?_
          refine g_icmp_ne (off := 14) (tgt := 181) (by decide +kernel) (by decide) (fun zc167 => ?_) (fun zc167 => ?_)
          · exact absurd zc167 (by decide)
          · refine g_blk (pc' := 198) (loc' := [some (vR (8, 0, 0)), some (vI (nI m)), some (vI (1 : Int32)), some (vI (f 5)), some (vI dq2), some (vI ((f' 5) - (f 5))), none, none]) (st' := [vR (8, 0, 0)]) (σ' := sa τ f') fl5_ok [(170, .aload_n 0), (171, .getfield 7), (174, .iconst 5), (175, .iaload), (176, .iload_n 3), (177, .isub), (178, .goto 17), (195, .istore 5), (197, .aload_n 0)] (by decide +kernel) rfl rfl ?_
            refine g_callV (8, 0, 0) [] [] vl_RX5_151 mi_X5_putBack (c_X5_putBack l (σ := sa τ f')) rfl rfl rfl rfl ⟨Nat.le_of_ble_eq_true rfl, Nat.le_of_ble_eq_true rfl⟩ rfl (Nat.le_of_ble_eq_true rfl) (by decide +kernel) (fun o σ2 hP2 => ?_)
            obtain ⟨rfl, hc2⟩ := hP2
            obtain ⟨τ2, f2, e1, e2, e3⟩ := fc_back h1 hA1 hc2
            refine g_blk (pc' := 203) (loc' := [some (vR (8, 0, 0)), some (vI (nI m)), some (vI (1 : Int32)), some (vI (f 5)), some (vI dq2), some (vI ((f' 5) - (f 5))), none, none]) (st' := [vI ((f' 5) - (f 5))]) (σ' := σ2) fl5_ok [(201, .iload 5)] (by decide +kernel) rfl rfl ?_
            have hx : xforecast S (nI m) 1 = Sq.2 7 - S.2 7 := by
              rw [xforecast, if_neg zc7, if_pos zc16, nI_clamp (by omega), hq]
              exact sw_in (n := 3) (j := 1) (by decide) (by decide)
            rw [hx]
            exact g_iret (by decide +kernel) ⟨congrArg (fun z => some (vI z)) (by rw [E'.2.1.2.2.1, hE.2.1.2.2.1]), τ2, f2, e1, e2.le (by omega), hF.tr e3⟩
        · exact absurd zc154 (by decide)
      | 2, hj =>
        have ej : nI 2 = (2 : Int32) := rfl
        rw [ej] at zc16 ⊢
        refine g_blk (pc' := 23) (loc' := [some (vR (8, 0, 0)), some (vI (nI m)), some (vI (2 : Int32)), none, none, none, none, none]) (st' := [vR (8, 0, 0)]) (σ' := sa σ f) fl5_ok [(22, .aload_n 0)] (by decide +kernel) rfl rfl ?_
        refine g_callV (8, 0, 0) [] [] vl_RX5_145 mi_X5_putAside (c_X5_putAside l (σ := sa σ f)) rfl rfl rfl rfl ⟨Nat.le_of_ble_eq_true rfl, Nat.le_of_ble_eq_true rfl⟩ rfl (Nat.le_of_ble_eq_true rfl) (by decide +kernel) (fun o τ hP0 => ?_)
        obtain ⟨rfl, hc⟩ := hP0
        obtain ⟨es, h1, hF, hA1⟩ := fc_aside h hc
        rw [es]
        refine g_blk (pc' := 39) (loc' := [some (vR (8, 0, 0)), some (vI (nI m)), some (vI (2 : Int32)), some (vI (f 5)), some (vI (0 : Int32)), some (vI (0 : Int32)), none, none]) (st' := []) (σ' := sa τ f) fl5_ok [(26, .aload_n 0), (27, .getfield 7), (30, .iconst 5), (31, .iaload), (32, .istore_n 3), (33, .iconst 0), (34, .istore 4), (36, .iconst 0), (37, .istore 5)] (by decide +kernel) rfl rfl ?_
        have hq : ∃ Q, fcF m S 0 = Q := ⟨_, rfl⟩
        obtain ⟨⟨Sq, dq2⟩, hq⟩ := hq
        refine g_sub (loc' := [some (vR (8, 0, 0)), some (vI (nI m)), some (vI (2 : Int32)), some (vI (f 5)), some (vI (0 : Int32)), some (vI (nI 0)), none, none]) ⟨Or.inr rfl, Or.inr rfl, Or.inr rfl, Or.inr rfl, Or.inr rfl, Or.inr rfl, Or.inl rfl, Or.inl rfl, trivial⟩ (lp_X5_fc1 l (Q := (Sq, dq2)) (N := n + 86400) hm60 (fun f' E' V' => ?_) m 0 0 f S n (by omega) hE hV (by omega) hq)
        refine g_blk (pc' := 154) (loc' := [some (vR (8, 0, 0)), some (vI (nI m)), some (vI (2 : Int32)), some (vI (f 5)), some (vI dq2), none, none, none]) (st' := [vI (2 : Int32)]) (σ' := sa τ f') fl5_ok [(153, .iload_n 2)] (by decide +kernel) rfl rfl ?_
        refine g_if_ne (off := 11) (tgt := 165) (by decide +kernel) (by decide) (fun zc154 => ?_) (fun zc154 => ?_)
        · refine g_blk (pc' := 167) (loc' := [some (vR (8, 0, 0)), some (vI (nI m)), some (vI (2 : Int32)), some (vI (f 5)), some (vI dq2), none, none, none]) (st' := [vI (1 : Int32), vI (2 : Int32)]) (σ' := sa τ f') fl5_ok [(165, .iload_n 2), (166, .iconst 1)] (by decide +kernel) rfl rfl ?_
          refine g_icmp_ne (off := 14) (tgt := 181) (by decide +kernel) (by decide) (fun zc167 => ?_) (fun zc167 => ?_)
          · refine g_blk (pc' := 183) (loc' := [some (vR (8, 0, 0)), some (vI (nI m)), some (vI (2 : Int32)), some (vI (f 5)), some (vI dq2), none, none, none]) (st' := [vI (2 : Int32), vI (2 : Int32)]) (σ' := sa τ f') fl5_ok [(181, .iload_n 2), (182, .iconst 2)] (by decide +kernel) rfl rfl ?_
            refine g_icmp_ne (off := 8) (tgt := 191) (by decide +kernel) (by decide) (fun zc183 => ?_) (fun zc183 => ?_)
            · exact absurd zc183 (by decide)
            · refine g_blk (pc' := 198) (loc' := [some (vR (8, 0, 0)), some (vI (nI m)), some (vI (2 : Int32)), some (vI (f 5)), some (vI dq2), some (vI dq2), none, none]) (st' := [vR (8, 0, 0)]) (σ' := sa τ f') fl5_ok [(186, .iload 4), (188, .goto 7), (195, .istore 5), (197, .aload_n 0)] (by decide +kernel) rfl rfl ?_
              refine g_callV (8, 0, 0) [] [] vl_RX5_151 mi_X5_putBack (c_X5_putBack l (σ := sa τ f')) rfl rfl rfl rfl ⟨Nat.le_of_ble_eq_true rfl, Nat.le_of_ble_eq_true rfl⟩ rfl (Nat.le_of_ble_eq_true rfl) (by decide +kernel) (fun o σ2 hP2 => ?_)
              obtain ⟨rfl, hc2⟩ := hP2
              obtain ⟨τ2, f2, e1, e2, e3⟩ := fc_back h1 hA1 hc2
              refine g_blk (pc' := 203) (loc' := [some (vR (8, 0, 0)), some (vI (nI m)), some (vI (2 : Int32)), some (vI (f 5)), some (vI dq2), some (vI dq2), none, none]) (st' := [vI dq2]) (σ' := σ2) fl5_ok [(201, .iload 5)] (by decide +kernel) rfl rfl ?_
              have hx : xforecast S (nI m) 2 = dq2 := by
                rw [xforecast, if_neg zc7, if_pos zc16, nI_clamp (by omega), hq]
                exact sw_in (n := 3) (j := 2) (by decide) (by decide)
              rw [hx]
              exact g_iret (by decide +kernel) ⟨congrArg (fun z => some (vI z)) (rfl), τ2, f2, e1, e2.le (by omega), hF.tr e3⟩
          · exact absurd zc167 (by decide)
        · exact absurd zc154 (by decide)
      | 3, hj =>
        have ej : nI 3 = (3 : Int32) := rfl
        rw [ej] at zc16 ⊢
        refine g_blk (pc' := 23) (loc' := [some (vR (8, 0, 0)), some (vI (nI m)), some (vI (3 : Int32)), none, none, none, none, none]) (st' := [vR (8, 0, 0)]) (σ' := sa σ f) fl5_ok [(22, .aload_n 0)] (by decide +kernel) rfl rfl ?_
        refine g_callV (8, 0, 0) [] [] vl_RX5_145 mi_X5_putAside (c_X5_putAside l (σ := sa σ f)) rfl rfl rfl rfl ⟨Nat.le_of_ble_eq_true rfl, Nat.le_of_ble_eq_true rfl⟩ rfl (Nat.le_of_ble_eq_true rfl) (by decide +kernel) (fun o τ hP0 => ?_)
        obtain ⟨rfl, hc⟩ := hP0
        obtain ⟨es, h1, hF, hA1⟩ := fc_aside h hc
        rw [es]
        refine g_blk (pc' := 39) (loc' := [some (vR (8, 0, 0)), some (vI (nI m)), some (vI (3 : Int32)), some (vI (f 5)), some (vI (0 : Int32)), some (vI (0 : Int32)), none, none]) (st' := []) (σ' := sa τ f) fl5_ok [(26, .aload_n 0), (27, .getfield 7), (30, .iconst 5), (31, .iaload), (32, .istore_n 3), (33, .iconst 0), (34, .istore 4), (36, .iconst 0), (37, .istore 5)] (by decide +kernel) rfl rfl ?_
        have hq : ∃ Q, fcF m S 0 = Q := ⟨_, rfl⟩
        obtain ⟨⟨Sq, dq2⟩, hq⟩ := hq
        refine g_sub (loc' := [some (vR (8, 0, 0)), some (vI (nI m)), some (vI (3 : Int32)), some (vI (f 5)), some (vI (0 : Int32)), some (vI (nI 0)), none, none]) ⟨Or.inr rfl, Or.inr rfl, Or.inr rfl, Or.inr rfl, Or.inr rfl, Or.inr rfl, Or.inl rfl, Or.inl rfl, trivial⟩ (lp_X5_fc1 l (Q := (Sq, dq2)) (N := n + 86400) hm60 (fun f' E' V' => ?_) m 0 0 f S n (by omega) hE hV (by omega) hq)
        refine g_blk (pc' := 154) (loc' := [some (vR (8, 0, 0)), some (vI (nI m)), some (vI (3 : Int32)), some (vI (f 5)), some (vI dq2), none, none, none]) (st' := [vI (3 : Int32)]) (σ' := sa τ f') fl5_ok [(153, .iload_n 2)] (by decide +kernel) rfl rfl ?_
        refine g_if_ne (off := 11) (tgt := 165) (by decide +kernel) (by decide) (fun zc154 => ?_) (fun zc154 => ?_)
        · refine g_blk (pc' := 167) (loc' := [some (vR (8, 0, 0)), some (vI (nI m)), some (vI (3 : Int32)), some (vI (f 5)), some (vI dq2), none, none, none]) (st' := [vI (1 : Int32), vI (3 : Int32)]) (σ' := sa τ f') fl5_ok [(165, .iload_n 2), (166, .iconst 1)] (by decide +kernel) rfl rfl ?_
          refine g_icmp_ne (off := 14) (tgt := 181) (by decide +kernel) (by decide) (fun zc167 => ?_) (fun zc167 => ?_)
          · refine g_blk (pc' := 183) (loc' := [some (vR (8, 0, 0)), some (vI (nI m)), some (vI (3 : Int32)), some (vI (f 5)), some (vI dq2), none, none, none]) (st' := [vI (2 : Int32), vI (3 : Int32)]) (σ' := sa τ f') fl5_ok [(181, .iload_n 2), (182, .iconst 2)] (by decide +kernel) rfl rfl ?_
            refine g_icmp_ne (off := 8) (tgt := 191) (by decide +kernel) (by decide) (fun zc183 => ?_) (fun zc183 => ?_)
            · refine g_blk (pc' := 192) (loc' := [some (vR (8, 0, 0)), some (vI (nI m)), some (vI (3 : Int32)), some (vI (f 5)), some (vI dq2), none, none, none]) (st' := [vR (8, 0, 0)]) (σ' := sa τ f') fl5_ok [(191, .aload_n 0)] (by decide +kernel) rfl rfl ?_
              refine g_callVp (8, 0, 0) [] [] vl_RX5_148 mi_X5_foulest (c_X5_foulest l (na := sz Sq 1) E'.2.2.1.2.1 E'.1.2.1) rfl rfl rfl rfl ⟨Nat.le_of_ble_eq_true rfl, Nat.le_of_ble_eq_true rfl⟩ rfl (Nat.le_of_ble_eq_true rfl) (by decide +kernel) ?_
              refine g_blk (pc' := 198) (loc' := [some (vR (8, 0, 0)), some (vI (nI m)), some (vI (3 : Int32)), some (vI (f 5)), some (vI dq2), some (vI (foL f' (sz Sq 1))), none, none]) (st' := [vR (8, 0, 0)]) (σ' := sa τ f') fl5_ok [(195, .istore 5), (197, .aload_n 0)] (by decide +kernel) rfl rfl ?_
              refine g_callV (8, 0, 0) [] [] vl_RX5_151 mi_X5_putBack (c_X5_putBack l (σ := sa τ f')) rfl rfl rfl rfl ⟨Nat.le_of_ble_eq_true rfl, Nat.le_of_ble_eq_true rfl⟩ rfl (Nat.le_of_ble_eq_true rfl) (by decide +kernel) (fun o σ2 hP2 => ?_)
              obtain ⟨rfl, hc2⟩ := hP2
              obtain ⟨τ2, f2, e1, e2, e3⟩ := fc_back h1 hA1 hc2
              refine g_blk (pc' := 203) (loc' := [some (vR (8, 0, 0)), some (vI (nI m)), some (vI (3 : Int32)), some (vI (f 5)), some (vI dq2), some (vI (foL f' (sz Sq 1))), none, none]) (st' := [vI (foL f' (sz Sq 1))]) (σ' := σ2) fl5_ok [(201, .iload 5)] (by decide +kernel) rfl rfl ?_
              have hx : xforecast S (nI m) 3 = dirtL Sq (sz Sq 1) := by
                rw [xforecast, if_neg zc7, if_pos zc16, nI_clamp (by omega), hq]
                exact sw_hi (n := 3) (by decide)
              rw [hx]
              exact g_iret (by decide +kernel) ⟨congrArg (fun z => some (vI z)) (dirt_eq E' _ (Nat.le_refl _)), τ2, f2, e1, e2.le (by omega), hF.tr e3⟩
            · exact absurd zc183 (by decide)
          · exact absurd zc167 (by decide)
        · exact absurd zc154 (by decide)
      | j + 4, hj => exact absurd hj (by omega)
    · refine g_blk (pc' := 21) (loc' := [some (vR (8, 0, 0)), some (vI (nI m)), some (vI w), none, none, none, none, none]) (st' := [vI (-2 : Int32)]) (σ' := sa σ f) fl5_ok [(19, .bipush (-2))] (by decide +kernel) rfl rfl ?_
      have hx : xforecast S (nI m) w = -2 := by rw [xforecast, if_neg zc7, if_neg (not_not_intro zc16)]
      rw [hx]
      exact g_iret (by decide +kernel) ⟨rfl, σ, f, rfl, h.le (by omega), FrM.rf⟩
theorem fr_or {S : HA} (hb : sz S 2 ≤ 12) : (∀ (k b a : Nat) (p : P3), a < 12 → (p.1 = -6 ∨ ∃ c, c < 2 ^ 31 ∧ p.1 = nI c) → (frI S a k b p).1 = -6 ∨ ∃ c, c < 2 ^ 31 ∧ (frI S a k b p).1 = nI c) ∧ (∀ (n k a : Nat) (p : P3), a + k ≤ 12 → (p.1 = -6 ∨ ∃ c, c < 2 ^ 31 ∧ p.1 = nI c) → (frO S n k a p).1 = -6 ∨ ∃ c, c < 2 ^ 31 ∧ (frO S n k a p).1 = nI c) := by
  have hI : ∀ (k b a : Nat) (p : P3), a < 12 → (p.1 = -6 ∨ ∃ c, c < 2 ^ 31 ∧ p.1 = nI c) → (frI S a k b p).1 = -6 ∨ ∃ c, c < 2 ^ 31 ∧ (frI S a k b p).1 = nI c := by
    intro k
    induction k with
    | zero => intro b a p _ h; exact h
    | succ k ih =>
      intro b a p ha h
      rw [frI]
      refine ih (b + 1) a _ ha ?_
      rw [frStep]
      by_cases q : p.2.2 ≤ (if canS S (nI a) (nI b) = 0 then p.2.2 else spreadIfS S (nI a) (nI b))
      · rw [if_pos q]; exact h
      · rw [if_neg q]; exact Or.inr ⟨a, by omega, rfl⟩
  refine ⟨hI, fun n k => ?_⟩
  induction k with
  | zero => intro a p _ h; exact h
  | succ k ih =>
    intro a p ha h
    rw [frO]
    exact ih (a + 1) _ (by omega) (hI _ _ a p (by omega) h)
theorem fr_neg {S : HA} (hb : sz S 2 ≤ 12) : (0 ≤ (frS S).1) ↔ ¬ (frS S).1 = -6 := by
  rcases (fr_or hb).2 (sz S 2) (sz S 2) 0 (-6, (-6, spreadS S 1 (-6) (-6) 0)) (by omega) (Or.inl rfl) with q | ⟨c, hc, q⟩
  · have q : (frS S).1 = -6 := q
    rw [q]; decide
  · have q : (frS S).1 = nI c := q
    rw [q]
    exact ⟨fun _ => nI_6 hc, fun _ => nI_pos' hc⟩
theorem fr_no {S : HA} {a b : Nat} {p : P3} (h : canS S (nI a) (nI b) = 0) : frStep S a b p = p := by
  rw [frStep, if_pos h, if_pos (Int32.le_refl _)]
theorem fr_keep {S : HA} {a b : Nat} {p : P3} (h : ¬ canS S (nI a) (nI b) = 0) (hl : p.2.2 ≤ spreadIfS S (nI a) (nI b)) : frStep S a b p = p := by
  rw [frStep, if_neg h, if_pos hl]
theorem fr_new {S : HA} {a b : Nat} {p : P3} (h : ¬ canS S (nI a) (nI b) = 0) (hl : ¬ p.2.2 ≤ spreadIfS S (nI a) (nI b)) : frStep S a b p = (nI a, (nI b, spreadIfS S (nI a) (nI b))) := by
  rw [frStep, if_neg h, if_neg hl]
set_option maxHeartbeats 2000000 in
theorem lp_X5_fr2 (l : Launch) {σ : Sg} {f : Nat → Int32} {S : HA} {Hs : List HA} {P : PV} {n : Nat} {w : Int32} (h : Mq_ S Hs P n f σ) (hn : n ≤ 1000000) {a : Nat} {pf : P3} (ha2 : a < sz S 2) (kk : G l (Rm 3) RX5 cX5_fairer 9 (some .int) (Mp_ (xfairer S w, ((S, (Hs, P)) : XS)) n σ) 178 [some (vR (8, 0, 0)), some (vI w), some (vI pf.1), some (vI pf.2.1), some (vI pf.2.2), some (vI (nI a)), none, none, none] [] (sa σ f)) : ∀ (k b : Nat) (p : P3), b + k = sz S 2 → a < b → frI S a k b p = pf → G l (Rm 3) RX5 cX5_fairer 9 (some .int) (Mp_ (xfairer S w, ((S, (Hs, P)) : XS)) n σ) 45 [some (vR (8, 0, 0)), some (vI w), some (vI p.1), some (vI p.2.1), some (vI p.2.2), some (vI (nI a)), some (vI (nI b)), none, none] [] (sa σ f) := by
  intro k
  induction k with
  | zero =>
    intro b p hk hab hd
    obtain ⟨hE, hV, ⟨h3, h6⟩, hA, h5, hP⟩ := id h
    obtain ⟨hb0, hb1, h12, hb3⟩ := hE.1
    have hnr := hE.2.2.1.1
    have hnt := hE.2.2.1.2.2.1
    have hK3 := hE.2.2.2.2.2.2.1
    refine g_blk (pc' := 53) (loc' := [some (vR (8, 0, 0)), some (vI w), some (vI p.1), some (vI p.2.1), some (vI p.2.2), some (vI (nI a)), some (vI (nI b)), none, none]) (st' := [vI (f 3), vI (nI b)]) (σ' := sa σ f) fl5_ok [(45, .iload 6), (47, .aload_n 0), (48, .getfield 7), (51, .iconst 3), (52, .iaload)] (by decide +kernel) rfl rfl ?_
    refine g_icmp_ge (off := 125) (tgt := 178) (by decide +kernel) (by decide) (fun zc53 => ?_) (fun zc53 => ?_)
    · rw [hnt, nI_leI (by omega) (by omega)] at zc53
      have hd : p = pf := hd
      subst hd
      exact g_sub (loc' := [some (vR (8, 0, 0)), some (vI w), some (vI p.1), some (vI p.2.1), some (vI p.2.2), some (vI (nI a)), none, none, none]) ⟨Or.inr rfl, Or.inr rfl, Or.inr rfl, Or.inr rfl, Or.inr rfl, Or.inr rfl, Or.inl rfl, Or.inl rfl, Or.inl rfl, trivial⟩ kk
    · rw [hnt, nI_leI (by omega) (by omega)] at zc53
      exact absurd (by omega) zc53
  | succ k ih =>
    intro b p hk hab hd
    obtain ⟨hE, hV, ⟨h3, h6⟩, hA, h5, hP⟩ := id h
    obtain ⟨hb0, hb1, h12, hb3⟩ := hE.1
    have hnr := hE.2.2.1.1
    have hnt := hE.2.2.1.2.2.1
    have hK3 := hE.2.2.2.2.2.2.1
    have hb2 : b < sz S 2 := by omega
    refine g_blk (pc' := 53) (loc' := [some (vR (8, 0, 0)), some (vI w), some (vI p.1), some (vI p.2.1), some (vI p.2.2), some (vI (nI a)), some (vI (nI b)), none, none]) (st' := [vI (f 3), vI (nI b)]) (σ' := sa σ f) fl5_ok [(45, .iload 6), (47, .aload_n 0), (48, .getfield 7), (51, .iconst 3), (52, .iaload)] (by decide +kernel) rfl rfl ?_
    refine g_icmp_ge (off := 125) (tgt := 178) (by decide +kernel) (by decide) (fun zc53 => ?_) (fun zc53 => ?_)
    · rw [hnt, nI_leI (by omega) (by omega)] at zc53
      exact absurd zc53 (by omega)
    · rw [hnt, nI_leI (by omega) (by omega)] at zc53
      refine g_blk (pc' := 60) (loc' := [some (vR (8, 0, 0)), some (vI w), some (vI p.1), some (vI p.2.1), some (vI p.2.2), some (vI (nI a)), some (vI (nI b)), none, none]) (st' := [vI (3 : Int32), vI (nI a), vR (8, 0, 0)]) (σ' := sa σ f) fl5_ok [(56, .aload_n 0), (57, .iload 5), (59, .iconst 3)] (by decide +kernel) rfl rfl ?_
      refine g_callVp (8, 0, 0) [vI (nI a), vI (3 : Int32)] [] vl_RX5_65 mi_X5_ofTask (c_X5_ofTask l (r := a) (c := 3) rfl rfl (by omega) (by omega)) rfl rfl rfl rfl ⟨Nat.le_of_ble_eq_true rfl, Nat.le_of_ble_eq_true rfl⟩ rfl (Nat.le_of_ble_eq_true rfl) (by decide +kernel) ?_
      refine g_if_ne (off := 34) (tgt := 97) (by decide +kernel) (by decide) (fun zc63 => ?_) (fun zc63 => ?_)
      · rw [hK3 a 3 ha2 (by decide)] at zc63
        refine g_blk (pc' := 102) (loc' := [some (vR (8, 0, 0)), some (vI w), some (vI p.1), some (vI p.2.1), some (vI p.2.2), some (vI (nI a)), some (vI (nI b)), some (vI (0 : Int32)), none]) (st' := [vI (0 : Int32)]) (σ' := sa σ f) fl5_ok [(97, .iconst 0), (98, .istore 7), (100, .iload 7)] (by decide +kernel) rfl rfl ?_
        refine g_if_eq (off := 70) (tgt := 172) (by decide +kernel) (by decide) (fun zc102 => ?_) (fun zc102 => ?_)
        · refine g_blk (pc' := 45) (loc' := [some (vR (8, 0, 0)), some (vI w), some (vI p.1), some (vI p.2.1), some (vI p.2.2), some (vI (nI a)), some (vI ((nI b) + (1 : Int32))), some (vI (0 : Int32)), none]) (st' := []) (σ' := sa σ f) fl5_ok [(172, .iinc 6 1), (175, .goto (-130))] (by decide +kernel) rfl rfl ?_
          have hcan : canS S (nI a) (nI b) = 0 := by rw [can_eq h12 ha2 hb2, if_pos zc63]
          rw [frI, fr_no hcan] at hd
          rw [nI_1]
          exact g_sub (loc' := [some (vR (8, 0, 0)), some (vI w), some (vI p.1), some (vI p.2.1), some (vI p.2.2), some (vI (nI a)), some (vI (nI (b + 1))), none, none]) ⟨Or.inr rfl, Or.inr rfl, Or.inr rfl, Or.inr rfl, Or.inr rfl, Or.inr rfl, Or.inr rfl, Or.inl rfl, Or.inl rfl, trivial⟩ (ih (b + 1) p (by omega) (by omega) hd)
        · exact absurd zc102 (by decide)
      · rw [hK3 a 3 ha2 (by decide)] at zc63
        refine g_blk (pc' := 70) (loc' := [some (vR (8, 0, 0)), some (vI w), some (vI p.1), some (vI p.2.1), some (vI p.2.2), some (vI (nI a)), some (vI (nI b)), none, none]) (st' := [vI (3 : Int32), vI (nI b), vR (8, 0, 0)]) (σ' := sa σ f) fl5_ok [(66, .aload_n 0), (67, .iload 6), (69, .iconst 3)] (by decide +kernel) rfl rfl ?_
        refine g_callVp (8, 0, 0) [vI (nI b), vI (3 : Int32)] [] vl_RX5_65 mi_X5_ofTask (c_X5_ofTask l (r := b) (c := 3) rfl rfl (by omega) (by omega)) rfl rfl rfl rfl ⟨Nat.le_of_ble_eq_true rfl, Nat.le_of_ble_eq_true rfl⟩ rfl (Nat.le_of_ble_eq_true rfl) (by decide +kernel) ?_
        refine g_if_ne (off := 24) (tgt := 97) (by decide +kernel) (by decide) (fun zc73 => ?_) (fun zc73 => ?_)
        · rw [hK3 b 3 hb2 (by decide)] at zc73
          refine g_blk (pc' := 102) (loc' := [some (vR (8, 0, 0)), some (vI w), some (vI p.1), some (vI p.2.1), some (vI p.2.2), some (vI (nI a)), some (vI (nI b)), some (vI (0 : Int32)), none]) (st' := [vI (0 : Int32)]) (σ' := sa σ f) fl5_ok [(97, .iconst 0), (98, .istore 7), (100, .iload 7)] (by decide +kernel) rfl rfl ?_
          refine g_if_eq (off := 70) (tgt := 172) (by decide +kernel) (by decide) (fun zc102 => ?_) (fun zc102 => ?_)
          · refine g_blk (pc' := 45) (loc' := [some (vR (8, 0, 0)), some (vI w), some (vI p.1), some (vI p.2.1), some (vI p.2.2), some (vI (nI a)), some (vI ((nI b) + (1 : Int32))), some (vI (0 : Int32)), none]) (st' := []) (σ' := sa σ f) fl5_ok [(172, .iinc 6 1), (175, .goto (-130))] (by decide +kernel) rfl rfl ?_
            have hcan : canS S (nI a) (nI b) = 0 := by rw [can_eq h12 ha2 hb2, if_neg (not_not_intro zc63), if_pos zc73]
            rw [frI, fr_no hcan] at hd
            rw [nI_1]
            exact g_sub (loc' := [some (vR (8, 0, 0)), some (vI w), some (vI p.1), some (vI p.2.1), some (vI p.2.2), some (vI (nI a)), some (vI (nI (b + 1))), none, none]) ⟨Or.inr rfl, Or.inr rfl, Or.inr rfl, Or.inr rfl, Or.inr rfl, Or.inr rfl, Or.inr rfl, Or.inl rfl, Or.inl rfl, trivial⟩ (ih (b + 1) p (by omega) (by omega) hd)
          · exact absurd zc102 (by decide)
        · rw [hK3 b 3 hb2 (by decide)] at zc73
          refine g_blk (pc' := 80) (loc' := [some (vR (8, 0, 0)), some (vI w), some (vI p.1), some (vI p.2.1), some (vI p.2.2), some (vI (nI a)), some (vI (nI b)), none, none]) (st' := [vI (1 : Int32), vI (nI a), vR (8, 0, 0)]) (σ' := sa σ f) fl5_ok [(76, .aload_n 0), (77, .iload 5), (79, .iconst 1)] (by decide +kernel) rfl rfl ?_
          refine g_callVp (8, 0, 0) [vI (nI a), vI (1 : Int32)] [] vl_RX5_65 mi_X5_ofTask (c_X5_ofTask l (r := a) (c := 1) rfl rfl (by omega) (by omega)) rfl rfl rfl rfl ⟨Nat.le_of_ble_eq_true rfl, Nat.le_of_ble_eq_true rfl⟩ rfl (Nat.le_of_ble_eq_true rfl) (by decide +kernel) ?_
          refine g_blk (pc' := 87) (loc' := [some (vR (8, 0, 0)), some (vI w), some (vI p.1), some (vI p.2.1), some (vI p.2.2), some (vI (nI a)), some (vI (nI b)), none, none]) (st' := [vI (1 : Int32), vI (nI b), vR (8, 0, 0), vI (mk f a 1)]) (σ' := sa σ f) fl5_ok [(83, .aload_n 0), (84, .iload 6), (86, .iconst 1)] (by decide +kernel) rfl rfl ?_
          refine g_callVp (8, 0, 0) [vI (nI b), vI (1 : Int32)] [vI (mk f a 1)] vl_RX5_65 mi_X5_ofTask (c_X5_ofTask l (r := b) (c := 1) rfl rfl (by omega) (by omega)) rfl rfl rfl rfl ⟨Nat.le_of_ble_eq_true rfl, Nat.le_of_ble_eq_true rfl⟩ rfl (Nat.le_of_ble_eq_true rfl) (by decide +kernel) ?_
          refine g_icmp_eq (off := 7) (tgt := 97) (by decide +kernel) (by decide) (fun zc90 => ?_) (fun zc90 => ?_)
          · rw [hK3 a 1 ha2 (by decide), hK3 b 1 hb2 (by decide)] at zc90
            refine g_blk (pc' := 102) (loc' := [some (vR (8, 0, 0)), some (vI w), some (vI p.1), some (vI p.2.1), some (vI p.2.2), some (vI (nI a)), some (vI (nI b)), some (vI (0 : Int32)), none]) (st' := [vI (0 : Int32)]) (σ' := sa σ f) fl5_ok [(97, .iconst 0), (98, .istore 7), (100, .iload 7)] (by decide +kernel) rfl rfl ?_
            refine g_if_eq (off := 70) (tgt := 172) (by decide +kernel) (by decide) (fun zc102 => ?_) (fun zc102 => ?_)
            · refine g_blk (pc' := 45) (loc' := [some (vR (8, 0, 0)), some (vI w), some (vI p.1), some (vI p.2.1), some (vI p.2.2), some (vI (nI a)), some (vI ((nI b) + (1 : Int32))), some (vI (0 : Int32)), none]) (st' := []) (σ' := sa σ f) fl5_ok [(172, .iinc 6 1), (175, .goto (-130))] (by decide +kernel) rfl rfl ?_
              have hcan : canS S (nI a) (nI b) = 0 := by rw [can_eq h12 ha2 hb2, if_neg (not_not_intro zc63), if_neg (not_not_intro zc73), if_pos zc90]
              rw [frI, fr_no hcan] at hd
              rw [nI_1]
              exact g_sub (loc' := [some (vR (8, 0, 0)), some (vI w), some (vI p.1), some (vI p.2.1), some (vI p.2.2), some (vI (nI a)), some (vI (nI (b + 1))), none, none]) ⟨Or.inr rfl, Or.inr rfl, Or.inr rfl, Or.inr rfl, Or.inr rfl, Or.inr rfl, Or.inr rfl, Or.inl rfl, Or.inl rfl, trivial⟩ (ih (b + 1) p (by omega) (by omega) hd)
            · exact absurd zc102 (by decide)
          · rw [hK3 a 1 ha2 (by decide), hK3 b 1 hb2 (by decide)] at zc90
            refine g_blk (pc' := 102) (loc' := [some (vR (8, 0, 0)), some (vI w), some (vI p.1), some (vI p.2.1), some (vI p.2.2), some (vI (nI a)), some (vI (nI b)), some (vI (1 : Int32)), none]) (st' := [vI (1 : Int32)]) (σ' := sa σ f) fl5_ok [(93, .iconst 1), (94, .goto 4), (98, .istore 7), (100, .iload 7)] (by decide +kernel) rfl rfl ?_
            refine g_if_eq (off := 70) (tgt := 172) (by decide +kernel) (by decide) (fun zc102 => ?_) (fun zc102 => ?_)
            · exact absurd zc102 (by decide)
            · refine g_blk (pc' := 110) (loc' := [some (vR (8, 0, 0)), some (vI w), some (vI p.1), some (vI p.2.1), some (vI p.2.2), some (vI (nI a)), some (vI (nI b)), some (vI (1 : Int32)), none]) (st' := [vI (nI b), vI (nI a), vR (8, 0, 0)]) (σ' := sa σ f) fl5_ok [(105, .aload_n 0), (106, .iload 5), (108, .iload 6)] (by decide +kernel) rfl rfl ?_
              refine g_callV (8, 0, 0) [vI (nI a), vI (nI b)] [] vl_RX5_127 mi_X5_exchange (c_X5_exchange l (a := a) (b := b) rfl rfl (by omega) (by omega)) rfl rfl rfl rfl ⟨Nat.le_of_ble_eq_true rfl, Nat.le_of_ble_eq_true rfl⟩ rfl (Nat.le_of_ble_eq_true rfl) (by decide +kernel) (fun o σ1 hP => ?_)
              obtain ⟨rfl, rfl⟩ := hP
              refine g_blk (pc' := 115) (loc' := [some (vR (8, 0, 0)), some (vI w), some (vI p.1), some (vI p.2.1), some (vI p.2.2), some (vI (nI a)), some (vI (nI b)), some (vI (1 : Int32)), none]) (st' := [vI (1 : Int32), vR (8, 0, 0)]) (σ' := sa σ (exM f a b)) fl5_ok [(113, .aload_n 0), (114, .iconst 1)] (by decide +kernel) rfl rfl ?_
              refine g_callVp (8, 0, 0) [vI (1 : Int32)] [] vl_RX5_138 mi_X5_spread (c_X5_spread l (nr := (sz S 0)) (nt := (sz S 2)) (1 : Int32) (by rw [exM, sk_lo (by decide), sk_lo (by decide)]; exact hnr) (by omega) (by rw [exM, sk_lo (by decide), sk_lo (by decide)]; exact hnt) (by omega) (fun r hr => by rw [exM, mo_sk (by omega) (by decide), mo_sk (by omega) (by decide)]; exact wt_ne hE hV r hr)) rfl rfl rfl rfl ⟨Nat.le_of_ble_eq_true rfl, Nat.le_of_ble_eq_true rfl⟩ rfl (Nat.le_of_ble_eq_true rfl) (by decide +kernel) ?_
              refine g_blk (pc' := 125) (loc' := [some (vR (8, 0, 0)), some (vI w), some (vI p.1), some (vI p.2.1), some (vI p.2.2), some (vI (nI a)), some (vI (nI b)), some (vI (1 : Int32)), some (vI (sprM (exM f a b) (1 : Int32) (sz S 2) (sz S 0)))]) (st' := [vI (nI b), vI (nI a), vR (8, 0, 0)]) (σ' := sa σ (exM f a b)) fl5_ok [(118, .istore 8), (120, .aload_n 0), (121, .iload 5), (123, .iload 6)] (by decide +kernel) rfl rfl ?_
              refine g_callV (8, 0, 0) [vI (nI a), vI (nI b)] [] vl_RX5_127 mi_X5_exchange (c_X5_exchange l (a := a) (b := b) rfl rfl (by omega) (by omega)) rfl rfl rfl rfl ⟨Nat.le_of_ble_eq_true rfl, Nat.le_of_ble_eq_true rfl⟩ rfl (Nat.le_of_ble_eq_true rfl) (by decide +kernel) (fun o σ2 hP => ?_)
              obtain ⟨rfl, rfl⟩ := hP
              have hcan : ¬ canS S (nI a) (nI b) = 0 := by rw [can_eq h12 ha2 hb2, if_neg (not_not_intro zc63), if_neg (not_not_intro zc73), if_neg zc90]; decide
              rw [ex_back f (show a ≠ b by omega), spread_x hE hV (by omega) ha2 hb2 zc63 zc73 zc90]
              refine g_blk (pc' := 132) (loc' := [some (vR (8, 0, 0)), some (vI w), some (vI p.1), some (vI p.2.1), some (vI p.2.2), some (vI (nI a)), some (vI (nI b)), some (vI (1 : Int32)), some (vI (spreadIfS S (nI a) (nI b)))]) (st' := [vI p.2.2, vI (spreadIfS S (nI a) (nI b))]) (σ' := sa σ f) fl5_ok [(128, .iload 8), (130, .iload 4)] (by decide +kernel) rfl rfl ?_
              refine g_icmp_ge (off := 8) (tgt := 140) (by decide +kernel) (by decide) (fun zc132 => ?_) (fun zc132 => ?_)
              · refine g_blk (pc' := 146) (loc' := [some (vR (8, 0, 0)), some (vI w), some (vI p.1), some (vI p.2.1), some (vI p.2.2), some (vI (nI a)), some (vI (nI b)), some (vI (1 : Int32)), some (vI (spreadIfS S (nI a) (nI b)))]) (st' := [vI p.2.2, vI (spreadIfS S (nI a) (nI b))]) (σ' := sa σ f) fl5_ok [(140, .iload_n 2), (141, .istore_n 2), (142, .iload 8), (144, .iload 4)] (by decide +kernel) rfl rfl ?_
                refine g_icmp_ge (off := 8) (tgt := 154) (by decide +kernel) (by decide) (fun zc146 => ?_) (fun zc146 => ?_)
                · refine g_blk (pc' := 160) (loc' := [some (vR (8, 0, 0)), some (vI w), some (vI p.1), some (vI p.2.1), some (vI p.2.2), some (vI (nI a)), some (vI (nI b)), some (vI (1 : Int32)), some (vI (spreadIfS S (nI a) (nI b)))]) (st' := [vI p.2.2, vI (spreadIfS S (nI a) (nI b))]) (σ' := sa σ f) fl5_ok [(154, .iload_n 3), (155, .istore_n 3), (156, .iload 8), (158, .iload 4)] (by decide +kernel) rfl rfl ?_
                  refine g_icmp_ge (off := 8) (tgt := 168) (by decide +kernel) (by decide) (fun zc160 => ?_) (fun zc160 => ?_)
                  · refine g_blk (pc' := 45) (loc' := [some (vR (8, 0, 0)), some (vI w), some (vI p.1), some (vI p.2.1), some (vI p.2.2), some (vI (nI a)), some (vI ((nI b) + (1 : Int32))), some (vI (1 : Int32)), some (vI (spreadIfS S (nI a) (nI b)))]) (st' := []) (σ' := sa σ f) fl5_ok [(168, .iload 4), (170, .istore 4), (172, .iinc 6 1), (175, .goto (-130))] (by decide +kernel) rfl rfl ?_
                    rw [frI, fr_keep hcan zc132] at hd
                    rw [nI_1]
                    exact g_sub (loc' := [some (vR (8, 0, 0)), some (vI w), some (vI p.1), some (vI p.2.1), some (vI p.2.2), some (vI (nI a)), some (vI (nI (b + 1))), none, none]) ⟨Or.inr rfl, Or.inr rfl, Or.inr rfl, Or.inr rfl, Or.inr rfl, Or.inr rfl, Or.inr rfl, Or.inl rfl, Or.inl rfl, trivial⟩ (ih (b + 1) p (by omega) (by omega) hd)
                  · exact absurd zc132 zc160
                · exact absurd zc132 zc146
              · refine g_blk (pc' := 146) (loc' := [some (vR (8, 0, 0)), some (vI w), some (vI (nI a)), some (vI p.2.1), some (vI p.2.2), some (vI (nI a)), some (vI (nI b)), some (vI (1 : Int32)), some (vI (spreadIfS S (nI a) (nI b)))]) (st' := [vI p.2.2, vI (spreadIfS S (nI a) (nI b))]) (σ' := sa σ f) fl5_ok [(135, .iload 5), (137, .goto 4), (141, .istore_n 2), (142, .iload 8), (144, .iload 4)] (by decide +kernel) rfl rfl ?_
                refine g_icmp_ge (off := 8) (tgt := 154) (by decide +kernel) (by decide) (fun zc146 => ?_) (fun zc146 => ?_)
                · exact absurd zc146 zc132
                · refine g_blk (pc' := 160) (loc' := [some (vR (8, 0, 0)), some (vI w), some (vI (nI a)), some (vI (nI b)), some (vI p.2.2), some (vI (nI a)), some (vI (nI b)), some (vI (1 : Int32)), some (vI (spreadIfS S (nI a) (nI b)))]) (st' := [vI p.2.2, vI (spreadIfS S (nI a) (nI b))]) (σ' := sa σ f) fl5_ok [(149, .iload 6), (151, .goto 4), (155, .istore_n 3), (156, .iload 8), (158, .iload 4)] (by decide +kernel) rfl rfl ?_
                  refine g_icmp_ge (off := 8) (tgt := 168) (by decide +kernel) (by decide) (fun zc160 => ?_) (fun zc160 => ?_)
                  · exact absurd zc160 zc132
                  · refine g_blk (pc' := 45) (loc' := [some (vR (8, 0, 0)), some (vI w), some (vI (nI a)), some (vI (nI b)), some (vI (spreadIfS S (nI a) (nI b))), some (vI (nI a)), some (vI ((nI b) + (1 : Int32))), some (vI (1 : Int32)), some (vI (spreadIfS S (nI a) (nI b)))]) (st' := []) (σ' := sa σ f) fl5_ok [(163, .iload 8), (165, .goto 5), (170, .istore 4), (172, .iinc 6 1), (175, .goto (-130))] (by decide +kernel) rfl rfl ?_
                    rw [frI, fr_new hcan zc132] at hd
                    rw [nI_1]
                    exact g_sub (loc' := [some (vR (8, 0, 0)), some (vI w), some (vI (nI a)), some (vI (nI b)), some (vI (spreadIfS S (nI a) (nI b))), some (vI (nI a)), some (vI (nI (b + 1))), none, none]) ⟨Or.inr rfl, Or.inr rfl, Or.inr rfl, Or.inr rfl, Or.inr rfl, Or.inr rfl, Or.inr rfl, Or.inl rfl, Or.inl rfl, trivial⟩ (ih (b + 1) (nI a, (nI b, spreadIfS S (nI a) (nI b))) (by omega) (by omega) hd)
set_option maxHeartbeats 2000000 in
theorem lp_X5_fr1 (l : Launch) {σ : Sg} {f : Nat → Int32} {S : HA} {Hs : List HA} {P : PV} {n : Nat} {w : Int32} (h : Mq_ S Hs P n f σ) (hn : n ≤ 1000000) (hw : ¬ isInS w 0 2 = 0) : ∀ (k a : Nat) (p : P3), a + k = sz S 2 → frO S (sz S 2) k a p = frS S → G l (Rm 3) RX5 cX5_fairer 9 (some .int) (Mp_ (xfairer S w, ((S, (Hs, P)) : XS)) n σ) 28 [some (vR (8, 0, 0)), some (vI w), some (vI p.1), some (vI p.2.1), some (vI p.2.2), some (vI (nI a)), none, none, none] [] (sa σ f) := by
  intro k
  induction k with
  | zero =>
    intro a p hk hd
    obtain ⟨hE, hV, ⟨h3, h6⟩, hA, h5, hP⟩ := id h
    obtain ⟨hb0, hb1, h12, hb3⟩ := hE.1
    have hnr := hE.2.2.1.1
    have hnt := hE.2.2.1.2.2.1
    have hK3 := hE.2.2.2.2.2.2.1
    refine g_blk (pc' := 36) (loc' := [some (vR (8, 0, 0)), some (vI w), some (vI p.1), some (vI p.2.1), some (vI p.2.2), some (vI (nI a)), none, none, none]) (st' := [vI (f 3), vI (nI a)]) (σ' := sa σ f) fl5_ok [(28, .iload 5), (30, .aload_n 0), (31, .getfield 7), (34, .iconst 3), (35, .iaload)] (by decide +kernel) rfl rfl ?_
    refine g_icmp_ge (off := 148) (tgt := 184) (by decide +kernel) (by decide) (fun zc36 => ?_) (fun zc36 => ?_)
    · rw [hnt, nI_leI (by omega) (by omega)] at zc36
      refine g_blk (pc' := 185) (loc' := [some (vR (8, 0, 0)), some (vI w), some (vI p.1), some (vI p.2.1), some (vI p.2.2), some (vI (nI a)), none, none, none]) (st' := [vI p.1]) (σ' := sa σ f) fl5_ok [(184, .iload_n 2)] (by decide +kernel) rfl rfl ?_
      refine g_if_ge (off := 8) (tgt := 193) (by decide +kernel) (by decide) (fun zc185 => ?_) (fun zc185 => ?_)
      · have hd : p = frS S := hd
        rw [hd, fr_neg h12] at zc185
        refine g_blk (pc' := 194) (loc' := [some (vR (8, 0, 0)), some (vI w), some (vI p.1), some (vI p.2.1), some (vI p.2.2), some (vI (nI a)), none, none, none]) (st' := [vI w]) (σ' := sa σ f) fl5_ok [(193, .iload_n 1)] (by decide +kernel) rfl rfl ?_
        refine g_if_ne (off := 7) (tgt := 201) (by decide +kernel) (by decide) (fun zc194 => ?_) (fun zc194 => ?_)
        · refine g_blk (pc' := 203) (loc' := [some (vR (8, 0, 0)), some (vI w), some (vI p.1), some (vI p.2.1), some (vI p.2.2), some (vI (nI a)), none, none, none]) (st' := [vI (1 : Int32), vI w]) (σ' := sa σ f) fl5_ok [(201, .iload_n 1), (202, .iconst 1)] (by decide +kernel) rfl rfl ?_
          refine g_icmp_ne (off := 7) (tgt := 210) (by decide +kernel) (by decide) (fun zc203 => ?_) (fun zc203 => ?_)
          · refine g_blk (pc' := 212) (loc' := [some (vR (8, 0, 0)), some (vI w), some (vI p.1), some (vI p.2.1), some (vI p.2.2), some (vI (nI a)), none, none, none]) (st' := [vI p.2.2]) (σ' := sa σ f) fl5_ok [(210, .iload 4)] (by decide +kernel) rfl rfl ?_
            have hx : xfairer S w = (frS S).2.2 := by rw [xfairer, if_pos hw, if_pos zc185, if_neg zc194, if_neg zc203]
            rw [hx, hd]
            exact g_iret (by decide +kernel) ⟨rfl, σ, f, rfl, h.le (by omega), FrM.rf⟩
          · refine g_blk (pc' := 212) (loc' := [some (vR (8, 0, 0)), some (vI w), some (vI p.1), some (vI p.2.1), some (vI p.2.2), some (vI (nI a)), none, none, none]) (st' := [vI p.2.1]) (σ' := sa σ f) fl5_ok [(206, .iload_n 3), (207, .goto 5)] (by decide +kernel) rfl rfl ?_
            have hx : xfairer S w = (frS S).2.1 := by rw [xfairer, if_pos hw, if_pos zc185, if_neg zc194, if_pos zc203]
            rw [hx, hd]
            exact g_iret (by decide +kernel) ⟨rfl, σ, f, rfl, h.le (by omega), FrM.rf⟩
        · refine g_blk (pc' := 212) (loc' := [some (vR (8, 0, 0)), some (vI w), some (vI p.1), some (vI p.2.1), some (vI p.2.2), some (vI (nI a)), none, none, none]) (st' := [vI p.1]) (σ' := sa σ f) fl5_ok [(197, .iload_n 2), (198, .goto 14)] (by decide +kernel) rfl rfl ?_
          have hx : xfairer S w = (frS S).1 := by rw [xfairer, if_pos hw, if_pos zc185, if_pos zc194]
          rw [hx, hd]
          exact g_iret (by decide +kernel) ⟨rfl, σ, f, rfl, h.le (by omega), FrM.rf⟩
      · have hd : p = frS S := hd
        rw [hd, fr_neg h12] at zc185
        refine g_blk (pc' := 212) (loc' := [some (vR (8, 0, 0)), some (vI w), some (vI p.1), some (vI p.2.1), some (vI p.2.2), some (vI (nI a)), none, none, none]) (st' := [vI (-6 : Int32)]) (σ' := sa σ f) fl5_ok [(188, .bipush (-6)), (190, .goto 22)] (by decide +kernel) rfl rfl ?_
        have hx : xfairer S w = -6 := by rw [xfairer, if_pos hw, if_neg zc185]
        rw [hx]
        exact g_iret (by decide +kernel) ⟨rfl, σ, f, rfl, h.le (by omega), FrM.rf⟩
    · rw [hnt, nI_leI (by omega) (by omega)] at zc36
      exact absurd (by omega) zc36
  | succ k ih =>
    intro a p hk hd
    obtain ⟨hE, hV, ⟨h3, h6⟩, hA, h5, hP⟩ := id h
    obtain ⟨hb0, hb1, h12, hb3⟩ := hE.1
    have hnr := hE.2.2.1.1
    have hnt := hE.2.2.1.2.2.1
    have hK3 := hE.2.2.2.2.2.2.1
    refine g_blk (pc' := 36) (loc' := [some (vR (8, 0, 0)), some (vI w), some (vI p.1), some (vI p.2.1), some (vI p.2.2), some (vI (nI a)), none, none, none]) (st' := [vI (f 3), vI (nI a)]) (σ' := sa σ f) fl5_ok [(28, .iload 5), (30, .aload_n 0), (31, .getfield 7), (34, .iconst 3), (35, .iaload)] (by decide +kernel) rfl rfl ?_
    refine g_icmp_ge (off := 148) (tgt := 184) (by decide +kernel) (by decide) (fun zc36 => ?_) (fun zc36 => ?_)
    · rw [hnt, nI_leI (by omega) (by omega)] at zc36
      exact absurd zc36 (by omega)
    · rw [hnt, nI_leI (by omega) (by omega)] at zc36
      refine g_blk (pc' := 45) (loc' := [some (vR (8, 0, 0)), some (vI w), some (vI p.1), some (vI p.2.1), some (vI p.2.2), some (vI (nI a)), some (vI ((nI a) + (1 : Int32))), none, none]) (st' := []) (σ' := sa σ f) fl5_ok [(39, .iload 5), (41, .iconst 1), (42, .iadd), (43, .istore 6)] (by decide +kernel) rfl rfl ?_
      rw [frO, show sz S 2 - (a + 1) = k by omega] at hd
      generalize hpf : frI S a k (a + 1) p = pf at hd
      rw [nI_1]
      refine lp_X5_fr2 l h hn (by omega) ?_ k (a + 1) p (by omega) (by omega) hpf
      refine g_blk (pc' := 28) (loc' := [some (vR (8, 0, 0)), some (vI w), some (vI pf.1), some (vI pf.2.1), some (vI pf.2.2), some (vI ((nI a) + (1 : Int32))), none, none, none]) (st' := []) (σ' := sa σ f) fl5_ok [(178, .iinc 5 1), (181, .goto (-153))] (by decide +kernel) rfl rfl ?_
      rw [nI_1]
      exact ih (a + 1) pf (by omega) hd
set_option maxHeartbeats 2000000 in
theorem m_fairer (l : Launch) {σ : Sg} {f : Nat → Int32} {S : HA} {Hs : List HA} {P : PV} {n : Nat} (h : Mq_ S Hs P n f σ) (hn : n ≤ 1000000) (w : Int32) : Con l 3 yX5_fairer cX5_fairer 9 (some .int) [vR (8, 0, 0), vI w] (sa σ f) (Mp_ (xfairer S w, ((S, (Hs, P)) : XS)) n σ) := by
  obtain ⟨hE, hV, ⟨h3, h6⟩, hA, h5, hP⟩ := id h
  obtain ⟨hb0, hb1, hb2, hb3⟩ := hE.1
  have hnr := hE.2.2.1.1
  have hna := hE.2.2.1.2.1
  have hnt := hE.2.2.1.2.2.1
  have hns := hE.2.2.1.2.2.2
  refine con_of pn_X5_fairer (Nat.le_of_ble_eq_true rfl) (fun hPK hok => ?_)
  show G l (Rm 3) RX5 cX5_fairer 9 (some .int) _ 0 [some (vR (8, 0, 0)), some (vI w), none, none, none, none, none, none, none] [] (sa σ f)
  refine g_blk (pc' := 3) (loc' := [some (vR (8, 0, 0)), some (vI w), none, none, none, none, none, none, none]) (st' := [vI (2 : Int32), vI (0 : Int32), vI w]) (σ' := sa σ f) fl5_ok [(0, .iload_n 1), (1, .iconst 0), (2, .iconst 2)] (by decide +kernel) rfl rfl ?_
  refine g_callSp [vI w, vI (0 : Int32), vI (2 : Int32)] [] sl_RX5_29 mi_X5_in (c_X5_in l w (0 : Int32) (2 : Int32)) rfl ⟨Nat.le_of_ble_eq_true rfl, Nat.le_of_ble_eq_true rfl⟩ rfl (Nat.le_of_ble_eq_true rfl) (by decide +kernel) ?_
  refine g_if_ne (off := 6) (tgt := 12) (by decide +kernel) (by decide) (fun zc6 => ?_) (fun zc6 => ?_)
  · refine g_blk (pc' := 20) (loc' := [some (vR (8, 0, 0)), some (vI w), some (vI (-6 : Int32)), some (vI (-6 : Int32)), none, none, none, none, none]) (st' := [vI (1 : Int32), vR (8, 0, 0)]) (σ' := sa σ f) fl5_ok [(12, .bipush (-6)), (14, .istore_n 2), (15, .bipush (-6)), (17, .istore_n 3), (18, .aload_n 0), (19, .iconst 1)] (by decide +kernel) rfl rfl ?_
    refine g_callVp (8, 0, 0) [vI (1 : Int32)] [] vl_RX5_138 mi_X5_spread (c_X5_spread l (nr := (sz S 0)) (nt := (sz S 2)) (1 : Int32) hnr (by omega) hnt (by omega) (wt_ne hE hV)) rfl rfl rfl rfl ⟨Nat.le_of_ble_eq_true rfl, Nat.le_of_ble_eq_true rfl⟩ rfl (Nat.le_of_ble_eq_true rfl) (by decide +kernel) ?_
    refine g_blk (pc' := 28) (loc' := [some (vR (8, 0, 0)), some (vI w), some (vI (-6 : Int32)), some (vI (-6 : Int32)), some (vI (sprM f (1 : Int32) (sz S 2) (sz S 0))), some (vI (0 : Int32)), none, none, none]) (st' := []) (σ' := sa σ f) fl5_ok [(23, .istore 4), (25, .iconst 0), (26, .istore 5)] (by decide +kernel) rfl rfl ?_
    rw [spread_1 hE hV (by omega)]
    exact lp_X5_fr1 l h hn zc6 (sz S 2) 0 (-6, (-6, spreadS S 1 (-6) (-6) 0)) (by omega) rfl
  · refine g_blk (pc' := 11) (loc' := [some (vR (8, 0, 0)), some (vI w), none, none, none, none, none, none, none]) (st' := [vI (-2 : Int32)]) (σ' := sa σ f) fl5_ok [(9, .bipush (-2))] (by decide +kernel) rfl rfl ?_
    have hx : xfairer S w = -2 := by rw [xfairer, if_neg (not_not_intro zc6)]
    rw [hx]
    exact g_iret (by decide +kernel) ⟨rfl, σ, f, rfl, h.le (by omega), FrM.rf⟩
