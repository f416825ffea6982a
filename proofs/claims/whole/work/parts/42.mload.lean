/-! THE MODEL: load (laid by wip/whole/mk42.py) -/
-- what a list does, task by task
def gF : Nat → Nat → HA → HA
  | 0, _, S => S
  | k + 1, t, S => gF k (t + 1) (if openS S (nI t) = 0 then S else finS S (nI t))
theorem op_hi {S : HA} {t : Nat} (h : sz S 2 ≤ t) (h31 : t < 2 ^ 31) : openS S (nI t) = 0 := by
  rw [openS, hasT_out (out_hi (n := sz S 2) (by omega) (nI_le h h31)), if_pos rfl]
theorem gF_no : ∀ (k t : Nat) (S : HA), sz S 2 ≤ t → t + k < 2 ^ 31 → gF k t S = S
  | 0, _, _, _, _ => rfl
  | k + 1, t, S, h, h31 => by rw [gF, if_pos (op_hi h (by omega)), gF_no k (t + 1) S (by omega) (by omega)]
theorem sz_if {S : HA} {t : Nat} : sz (if openS S (nI t) = 0 then S else finS S (nI t)) 2 = sz S 2 := by
  split
  · rfl
  · exact sz_fin S _
theorem gF_fin {b : Nat} (hb : b < 2 ^ 30) : ∀ (m k t : Nat) (S : HA), sz S 2 ≤ t + m → t + k = b + 1 → gF k t S = finG (nI b) m t S
  | 0, k, t, S, h, hk => by rw [gF_no k t S (by omega) (by omega)]; rfl
  | m + 1, 0, t, S, h, hk => by
    rw [finG, if_pos (show nI b < nI t from (nI_ltI (by omega) (by omega)).mpr (by omega))]; rfl
  | m + 1, k + 1, t, S, h, hk => by
    rw [gF, finG, if_neg (fun z => absurd ((nI_ltI (by omega) (by omega)).mp z) (show ¬ b < t by omega))]
    by_cases q : sz S 2 ≤ t
    · rw [if_pos q, if_pos (op_hi q (by omega)), gF_no k (t + 1) S (by omega) (by omega)]
    · rw [if_neg q]
      exact gF_fin hb m k (t + 1) _ (by rw [sz_if]; omega) (by omega)
theorem fin_gF {S : HA} {a b : Nat} (ha : a ≤ 99) (hb : b ≤ 99) : gF (b + 1 - a) a S = finFT S a (nI b) := by
  rw [finFT]
  by_cases q : a ≤ b + 1
  · exact gF_fin (by omega) (sz S 2) (b + 1 - a) a S (by omega) (by omega)
  · rw [show b + 1 - a = 0 by omega]
    rcases Nat.eq_zero_or_pos (sz S 2) with z | z
    · rw [z]; rfl
    · obtain ⟨m, hm⟩ : ∃ m, sz S 2 = m + 1 := ⟨sz S 2 - 1, by omega⟩
      rw [hm, finG, if_pos (show nI b < nI a from (nI_ltI (by omega) (by omega)).mpr (by omega))]; rfl
theorem fin_all {S : HA} (h : sz S 2 ≤ 12) : finFT S 0 (nI (sz S 2) - 1) = gF (sz S 2) 0 S := by
  rcases Nat.eq_zero_or_pos (sz S 2) with z | z
  · rw [finFT, z]; rfl
  · obtain ⟨m, hm⟩ : ∃ m, sz S 2 = m + 1 := ⟨sz S 2 - 1, by omega⟩
    rw [finFT, hm, nI_pred]
    exact (gF_fin (by omega) (m + 1) (m + 1) 0 S (by omega) (by omega)).symm
theorem fin_5 (S : HA) (t : Int32) : (finS S t).2 5 = S.2 5 := by
  unfold finS dropS setT
  simp only
  split <;> rfl
theorem gF_5 : ∀ (k t : Nat) (S : HA), (gF k t S).2 5 = S.2 5
  | 0, _, _ => rfl
  | k + 1, t, S => by
    rw [gF, gF_5 k (t + 1)]
    split
    · rfl
    · exact fin_5 S _
theorem gF_sz : ∀ (k t : Nat) (S : HA), sz (gF k t S) 2 = sz S 2
  | 0, _, _ => rfl
  | k + 1, t, S => by rw [gF, gF_sz k (t + 1), sz_if]
theorem sk_self (f : Nat → Int32) (t c : Nat) : sk f t c (mk f t c) = f := by
  funext i
  by_cases q : i = 90 + 5 * t + c
  · rw [q]; exact up_at
  · exact up_ne q
-- the deep ones among them
def dq : Nat → Nat → HA → Int32 → Int32
  | 0, _, _, d => d
  | k + 1, t, S, d => dq k (t + 1) (if openS S (nI t) = 0 then S else finS S (nI t)) (if openS S (nI t) = 0 then d else d + ce S 2 t 4)
theorem dq_eq {S0 : HA} {d0 : Int32} : ∀ (k t : Nat) (S : HA) (f : Nat → Int32) (n : Nat), ED S f → V S n → t + k = sz S 2 → (∀ u, t ≤ u → u < sz S 2 → openS S (nI u) = openS S0 (nI u) ∧ ce S 2 u 4 = ce S0 2 u 4 ∧ cl S0 2 (nI u) 4 = ce S0 2 u 4) → dq k t S (d0 + cntDL S0 t) = d0 + cntDL S0 (t + k)
  | 0, t, S, f, n, _, _, _, _ => rfl
  | k + 1, t, S, f, n, hE, hV, hk, hu => by
    obtain ⟨u1, u2, u3⟩ := hu t (Nat.le_refl t) (by omega)
    have h12 := hE.1.2.2.1
    have step : cntDL S0 (t + 1) = cntDL S0 t + (if openS S (nI t) = 0 then 0 else ce S 2 t 4) := by
      rw [cntDL, openDeepS, ← u1, u3, ← u2]
      by_cases q : openS S (nI t) = 0
      · rw [if_pos q, if_pos q]; rfl
      · rw [if_neg q, if_neg q]
        rcases (hV.2.2.2.1 t (by omega)).2.2.2.2 with z | z <;> rw [z] <;> rfl
    rw [dq]
    by_cases q : openS S (nI t) = 0
    · rw [if_pos q, if_pos q]
      rw [if_pos q, Int32.add_zero] at step
      rw [← step, dq_eq k (t + 1) S f n hE hV (by omega) (fun u h1 h2 => hu u (by omega) h2), show t + 1 + k = t + (k + 1) by omega]
    · rw [if_neg q, if_neg q]
      rw [if_neg q] at step
      have ho : ce S 2 t 3 = 0 := by
        rw [open_n (by omega) (by omega)] at q
        by_cases z : ce S 2 t 3 = 0
        · exact z
        · rw [if_neg z] at q; exact absurd rfl q
      obtain ⟨r, a, -, -, -, -, fE, fV, -, f1, f2, -⟩ := fin_ok hE hV (t := t) (by omega) ho
      have s2 : sz (finS S (nI t)) 2 = sz S 2 := sz_fin S _
      have hnew : ∀ u, t + 1 ≤ u → u < sz (finS S (nI t)) 2 → openS (finS S (nI t)) (nI u) = openS S0 (nI u) ∧ ce (finS S (nI t)) 2 u 4 = ce S0 2 u 4 ∧ cl S0 2 (nI u) 4 = ce S0 2 u 4 := by
        intro u h1 h2
        rw [s2] at h2
        obtain ⟨v1, v2, v3⟩ := hu u (by omega) h2
        refine ⟨?_, ?_, v3⟩
        · rw [← v1, open_n (by rw [s2]; omega) (by rw [s2]; exact h2), open_n (by omega) h2, f2, if_neg (fun z : u = t ∧ 3 = 3 => absurd z.1 (by omega))]
        · rw [← v2, f2, if_neg (fun z => absurd z.1 (by omega))]
      rw [Int32.add_assoc, ← step, dq_eq k (t + 1) _ _ n fE fV (by rw [s2]; omega) hnew, show t + 1 + k = t + (k + 1) by omega]
def PartsOK2 (T : TV) : Prop := T.1 ≤ 30 → ∀ r, r < T.1 → ∃ t, t ≤ 99 ∧ T.2 r 1 = nI t
theorem addP_ok2 {T : TV} {f g : Int32} (h : PartsOK2 T) (hg : ∃ t, t ≤ 99 ∧ g = nI t) : PartsOK2 (addP T f g) := by
  intro h30 r hr
  have h30' : T.1 + 1 ≤ 30 := h30
  have hr' : r < T.1 + 1 := hr
  rw [addP_c (by omega)]
  by_cases hrr : r = T.1
  · rw [if_pos ⟨hrr, rfl⟩]; exact hg
  · rw [if_neg (fun z => hrr z.1), if_neg (fun z => hrr z.1)]; exact h (by omega) r (by omega)
theorem rd_ok2 {P : PV} : ∀ (k s : Nat) (T : TV), PartsOK2 T → PartsOK2 (rdF P k s T).2
  | 0, _, _, h => h
  | k + 1, s, T, h => by
    rw [rdF]
    split
    · rename_i h1
      have hf := num_ok h1
      split
      · split
        · split
          · exact rd_ok2 k _ _ (addP_ok2 h hf)
          · exact addP_ok2 h hf
        · exact addP_ok2 h hf
      · split
        · exact h
        · rename_i h2
          have hg := num_ok h2
          split
          · split
            · split
              · exact rd_ok2 k _ _ (addP_ok2 h hg)
              · exact addP_ok2 h hg
            · exact addP_ok2 h hg
          · exact h
    · exact h
theorem rd_len {P : PV} (h60 : P.1 ≤ 60) (hz : ∀ i, P.1 ≤ i → P.2 i = 0) : ∀ (k s : Nat) (T : TV), 2 * T.1 ≤ s → T.1 ≤ 30 → (rdF P k s T).2.1 ≤ 30
  | 0, _, _, _, h => h
  | k + 1, s, T, h2, h30 => by
    rw [rdF]
    split
    · rename_i h1
      have ht := eon_top hz h1
      have hl := eon_le P s
      have hl2 := eon_le P (eonS P s + 1)
      have up : ∀ f g, (addP T f g).1 ≤ 30 := fun f g => by rw [addP_1]; omega
      split
      · split
        · split
          · exact rd_len h60 hz k _ _ (by rw [addP_1]; omega) (up _ _)
          · exact up _ _
        · exact up _ _
      · split
        · exact h30
        · split
          · split
            · split
              · exact rd_len h60 hz k _ _ (by rw [addP_1]; omega) (up _ _)
              · exact up _ _
            · exact up _ _
          · exact h30
    · exact h30
theorem con_keep2 {S : HA} {Hs : List HA} {P : PV} {n : Nat} {f : Nat → Int32} {σ : Sg} (l : Launch) (h : Mq_ S Hs P n f σ) : Con l 0 yX5_keep cX5_keep 2 none [vR (8, 0, 0)] (sa σ f) (fun o σ' => o = none ∧ ∃ τ, σ' = sa τ f ∧ Km_ S Hs P n σ τ ∧ (∀ p, p ≠ (9, 2, 0) → p ≠ (8, 0, 0) → p ≠ (9, 0, 0) → τ.1 p = σ.1 p) ∧ ∀ k, k ≠ 3 → τ.1 (8, 0, 0) k = σ.1 (8, 0, 0) k) := by
  refine con_mono (c_X5_keep l (σ := sa σ f) (n := Hs.length) ?_ h.2.2.1.2) (fun o σ' hp => ⟨hp.1, σ', ?_, ?_⟩)
  · rw [sa_ne σ f (by simp)]; exact h.2.2.1.1
  · have hk := hp.2
    rw [sa_at] at hk
    have e := (keep_ok h hk).2.1
    have s := sa_self σ'
    rw [e] at s
    exact s.symm
  · have hk := hp.2
    rw [sa_at] at hk
    exact ⟨(keep_ok h hk).1, (keep_ok h hk).2.2⟩
theorem has_lt {S : HA} {t : Nat} (hs : sz S 2 ≤ 12) (ht : t < 2 ^ 31) (h : ¬ hasT (nI t) (sz S 2) = 0) : t < sz S 2 := by
  obtain ⟨r, hr, e⟩ := has_ex (by omega) h
  have := (nI_eq (by omega) (by omega)).mp e
  omega
set_option maxHeartbeats 2000000 in
theorem lp_X5_ld2 (l : Launch) {σ : Sg} {had : Int32} {p b n : Nat} {post : Option AV → Sg → Prop} (hb99 : b ≤ 99) (hRb : σ.1 (9, 4, 0) (2 * p + 1) = nI b) (hp30 : p < 30) : ∀ (k t : Nat) (f : Nat → Int32) (S : HA), k = b + 1 - t → t ≤ 150 → ED S f → V S n → (∀ f', ED (gF k t S) f' → V (gF k t S) n → G l (Rm 4) RX5 cX5_load 4 (some .int) post 90 [some (vR (8, 0, 0)), some (vI had), some (vI (nI p)), none] [] (sa σ f')) → G l (Rm 4) RX5 cX5_load 4 (some .int) (post) 42 [some (vR (8, 0, 0)), some (vI had), some (vI (nI p)), some (vI (nI t))] [] (sa σ f) := by
  intro k
  induction k with
  | zero =>
    intro t f S hk ht hE hV kk
    obtain ⟨hb0, hb1, hb2, hb3⟩ := hE.1
    have hnr := hE.2.2.1.1
    have hna := hE.2.2.1.2.1
    have hnt := hE.2.2.1.2.2.1
    have hns := hE.2.2.1.2.2.2
    have hK3 := hE.2.2.2.2.2.2.1
    refine g_blk (pc' := 52) (loc' := [some (vR (8, 0, 0)), some (vI had), some (vI (nI p)), some (vI (nI t))]) (st' := [vI (((2 : Int32) * (nI p)) + (1 : Int32)), vR (9, 4, 0), vI (nI t)]) (σ' := sa σ f) fl5_ok [(42, .iload_n 3), (43, .aload_n 0), (44, .getfield 22), (47, .iconst 2), (48, .iload_n 2), (49, .imul), (50, .iconst 1), (51, .iadd)] (by decide +kernel) rfl rfl ?_
    refine g_xld (n := 60) (k := (2 * p + 1)) rfl (by rw [ix2, nI_1]) (by omega) (by decide) (by decide +kernel) ?_
    refine g_icmp_gt (off := 37) (tgt := 90) (by decide +kernel) (by decide) (fun zc53 => ?_) (fun zc53 => ?_)
    · rw [sa_ne σ f (p := (9, 4, 0)) (by simp), hRb, nI_ltI (by omega) (by omega)] at zc53
      exact g_sub (loc' := [some (vR (8, 0, 0)), some (vI had), some (vI (nI p)), none]) ⟨Or.inr rfl, Or.inr rfl, Or.inr rfl, Or.inl rfl, trivial⟩ (kk f hE hV)
    · rw [sa_ne σ f (p := (9, 4, 0)) (by simp), hRb, nI_ltI (by omega) (by omega)] at zc53
      exact absurd (by omega) zc53
  | succ k ih =>
    intro t f S hk ht hE hV kk
    obtain ⟨hb0, hb1, hb2, hb3⟩ := hE.1
    have hnr := hE.2.2.1.1
    have hna := hE.2.2.1.2.1
    have hnt := hE.2.2.1.2.2.1
    have hns := hE.2.2.1.2.2.2
    have hK3 := hE.2.2.2.2.2.2.1
    refine g_blk (pc' := 52) (loc' := [some (vR (8, 0, 0)), some (vI had), some (vI (nI p)), some (vI (nI t))]) (st' := [vI (((2 : Int32) * (nI p)) + (1 : Int32)), vR (9, 4, 0), vI (nI t)]) (σ' := sa σ f) fl5_ok [(42, .iload_n 3), (43, .aload_n 0), (44, .getfield 22), (47, .iconst 2), (48, .iload_n 2), (49, .imul), (50, .iconst 1), (51, .iadd)] (by decide +kernel) rfl rfl ?_
    refine g_xld (n := 60) (k := (2 * p + 1)) rfl (by rw [ix2, nI_1]) (by omega) (by decide) (by decide +kernel) ?_
    refine g_icmp_gt (off := 37) (tgt := 90) (by decide +kernel) (by decide) (fun zc53 => ?_) (fun zc53 => ?_)
    · rw [sa_ne σ f (p := (9, 4, 0)) (by simp), hRb, nI_ltI (by omega) (by omega)] at zc53
      exact absurd zc53 (by omega)
    · rw [sa_ne σ f (p := (9, 4, 0)) (by simp), hRb, nI_ltI (by omega) (by omega)] at zc53
      refine g_blk (pc' := 58) (loc' := [some (vR (8, 0, 0)), some (vI had), some (vI (nI p)), some (vI (nI t))]) (st' := [vI (nI t), vR (8, 0, 0)]) (σ' := sa σ f) fl5_ok [(56, .aload_n 0), (57, .iload_n 3)] (by decide +kernel) rfl rfl ?_
      refine g_callVp (8, 0, 0) [vI (nI t)] [] vl_RX5_112 mi_X5_isTask (c_X5_isTask l (n := (sz S 2)) (nI t) hnt (by omega)) rfl rfl rfl rfl ⟨Nat.le_of_ble_eq_true rfl, Nat.le_of_ble_eq_true rfl⟩ rfl (Nat.le_of_ble_eq_true rfl) (by decide +kernel) ?_
      refine g_if_eq (off := 23) (tgt := 84) (by decide +kernel) (by decide) (fun zc61 => ?_) (fun zc61 => ?_)
      · refine g_blk (pc' := 42) (loc' := [some (vR (8, 0, 0)), some (vI had), some (vI (nI p)), some (vI ((nI t) + (1 : Int32)))]) (st' := []) (σ' := sa σ f) fl5_ok [(84, .iinc 3 1), (87, .goto (-45))] (by decide +kernel) rfl rfl ?_
        have hop : openS S (nI t) = 0 := by rw [openS, if_pos zc61]
        rw [gF, if_pos hop] at kk
        rw [nI_1]
        exact ih (t + 1) f S (by omega) (by omega) hE hV kk
      · refine g_blk (pc' := 67) (loc' := [some (vR (8, 0, 0)), some (vI had), some (vI (nI p)), some (vI (nI t))]) (st' := [vI (3 : Int32), vI (nI t), vR (8, 0, 0)]) (σ' := sa σ f) fl5_ok [(64, .aload_n 0), (65, .iload_n 3), (66, .iconst 3)] (by decide +kernel) rfl rfl ?_
        have htl : t < sz S 2 := has_lt hb2 (by omega) zc61
        refine g_callVp (8, 0, 0) [vI (nI t), vI (3 : Int32)] [] vl_RX5_65 mi_X5_ofTask (c_X5_ofTask l (r := t) (c := 3) rfl rfl (by omega) (by omega)) rfl rfl rfl rfl ⟨Nat.le_of_ble_eq_true rfl, Nat.le_of_ble_eq_true rfl⟩ rfl (Nat.le_of_ble_eq_true rfl) (by decide +kernel) ?_
        refine g_if_ne (off := 14) (tgt := 84) (by decide +kernel) (by decide) (fun zc70 => ?_) (fun zc70 => ?_)
        · refine g_blk (pc' := 42) (loc' := [some (vR (8, 0, 0)), some (vI had), some (vI (nI p)), some (vI ((nI t) + (1 : Int32)))]) (st' := []) (σ' := sa σ f) fl5_ok [(84, .iinc 3 1), (87, .goto (-45))] (by decide +kernel) rfl rfl ?_
          have hop : openS S (nI t) = 0 := by rw [open_n (by omega) htl, if_neg (by rw [← hK3 t 3 htl (by decide)]; exact zc70)]
          rw [gF, if_pos hop] at kk
          rw [nI_1]
          exact ih (t + 1) f S (by omega) (by omega) hE hV kk
        · refine g_blk (pc' := 78) (loc' := [some (vR (8, 0, 0)), some (vI had), some (vI (nI p)), some (vI (nI t))]) (st' := [vI (nI t), vR (8, 0, 0), vI (2 : Int32), vI (nI t), vR (8, 0, 0)]) (σ' := sa σ f) fl5_ok [(73, .aload_n 0), (74, .iload_n 3), (75, .iconst 2), (76, .aload_n 0), (77, .iload_n 3)] (by decide +kernel) rfl rfl ?_
          have ho : ce S 2 t 3 = 0 := by rw [← hK3 t 3 htl (by decide)]; exact zc70
          have hop : ¬ openS S (nI t) = 0 := by rw [open_n (by omega) htl, if_pos ho]; decide
          obtain ⟨r, a, hr, ha, hkr, hka, fE, fV, f2, -⟩ := fin_ok hE hV htl ho
          refine g_callV (8, 0, 0) [vI (nI t)] [vI (2 : Int32), vI (nI t), vR (8, 0, 0)] vl_RX5_115 mi_X5_finish (c_X5_finish l (t := t) (nt := sz S 2) (ns := sz S 3) (r := r) (a := a) rfl (by omega) hnt hb2 hns hb3 hkr hr hka ha) rfl rfl rfl rfl ⟨Nat.le_of_ble_eq_true rfl, Nat.le_of_ble_eq_true rfl⟩ rfl (Nat.le_of_ble_eq_true rfl) (by decide +kernel) (fun o σ1 hP => ?_)
          obtain ⟨rfl, rfl⟩ := hP
          refine g_callV (8, 0, 0) [vI (nI t), vI (2 : Int32), vI (mk (finM f (sz S 2) (sz S 3) t r a).1 t 2)] [] vl_RX5_68 mi_X5_layTask (c_X5_layTask l (r := t) (c := 2) (mk (finM f (sz S 2) (sz S 3) t r a).1 t 2) rfl rfl (by omega) (by omega)) rfl rfl rfl rfl ⟨Nat.le_of_ble_eq_true rfl, Nat.le_of_ble_eq_true rfl⟩ rfl (Nat.le_of_ble_eq_true rfl) (by decide +kernel) (fun o σ2 hP => ?_)
          obtain ⟨rfl, rfl⟩ := hP
          refine g_blk (pc' := 42) (loc' := [some (vR (8, 0, 0)), some (vI had), some (vI (nI p)), some (vI ((nI t) + (1 : Int32)))]) (st' := []) (σ' := sa σ (sk ((finM f (sz S 2) (sz S 3) t r a).1) t 2 (mk (finM f (sz S 2) (sz S 3) t r a).1 t 2))) fl5_ok [(84, .iinc 3 1), (87, .goto (-45))] (by decide +kernel) rfl rfl ?_
          rw [gF, if_neg hop] at kk
          rw [nI_1, sk_self]
          exact ih (t + 1) _ _ (by omega) (by omega) fE fV kk
set_option maxHeartbeats 2000000 in
theorem lp_X5_ld1 (l : Launch) {σ : Sg} {had : Int32} {T : TV} {Sf : HA} {n : Nat} (hR : RR T σ) (h10 : σ.1 (8, 0, 0) 10 = nI T.1) (h30 : T.1 ≤ 30) (hok : ∀ r, r < T.1 → (∃ a, a ≤ 99 ∧ T.2 r 0 = nI a) ∧ ∃ b, b ≤ 99 ∧ T.2 r 1 = nI b) : ∀ (k p : Nat) (f : Nat → Int32) (S : HA), p + k = T.1 → ED S f → V S n → loadF T k p S = Sf → G l (Rm 4) RX5 cX5_load 4 (some .int) (fun o σ' => ∃ f', ED Sf f' ∧ V Sf n ∧ o = some (vI (f' 5 - had)) ∧ (upd2 (sa σ f').1 (8, 0, 0) 5 0, (sa σ f').2) = σ') 25 [some (vR (8, 0, 0)), some (vI had), some (vI (nI p)), none] [] (sa σ f) := by
  intro k
  induction k with
  | zero =>
    intro p f S hk hE hV hd
    refine g_blk (pc' := 30) (loc' := [some (vR (8, 0, 0)), some (vI had), some (vI (nI p)), none]) (st' := [vI (σ.1 (8, 0, 0) 10), vI (nI p)]) (σ' := sa σ f) fl5_ok [(25, .iload_n 2), (26, .aload_n 0), (27, .getfield 172)] (by decide +kernel) rfl rfl ?_
    refine g_icmp_ge (off := 66) (tgt := 96) (by decide +kernel) (by decide) (fun zc30 => ?_) (fun zc30 => ?_)
    · rw [h10, nI_leI (by omega) (by omega)] at zc30
      refine g_blk (pc' := 109) (loc' := [some (vR (8, 0, 0)), some (vI had), some (vI (nI p)), none]) (st' := [vI (((upd2 (sa σ f).1 (8, 0, 0) 5 (0 : Int32), (sa σ f).2).1 (9, 0, 0) 5) - had)]) (σ' := (upd2 (sa σ f).1 (8, 0, 0) 5 (0 : Int32), (sa σ f).2)) fl5_ok [(96, .aload_n 0), (97, .iconst 0), (98, .putfield 142), (101, .aload_n 0), (102, .getfield 7), (105, .iconst 5), (106, .iaload), (107, .iload_n 1), (108, .isub)] (by decide +kernel) rfl rfl ?_
      generalize hσ1 : ((upd2 (sa σ f).1 (8, 0, 0) 5 (0 : Int32), (sa σ f).2) : Sg) = σ1
      have hd : S = Sf := hd
      subst hd
      have e9 := (f8 hσ1).2.2.1 (9, 0, 0) (by simp)
      rw [sa_at] at e9
      exact g_iret (by decide +kernel) ⟨f, hE, hV, by rw [e9], hσ1⟩
    · rw [h10, nI_leI (by omega) (by omega)] at zc30
      exact absurd (by omega) zc30
  | succ k ih =>
    intro p f S hk hE hV hd
    refine g_blk (pc' := 30) (loc' := [some (vR (8, 0, 0)), some (vI had), some (vI (nI p)), none]) (st' := [vI (σ.1 (8, 0, 0) 10), vI (nI p)]) (σ' := sa σ f) fl5_ok [(25, .iload_n 2), (26, .aload_n 0), (27, .getfield 172)] (by decide +kernel) rfl rfl ?_
    refine g_icmp_ge (off := 66) (tgt := 96) (by decide +kernel) (by decide) (fun zc30 => ?_) (fun zc30 => ?_)
    · rw [h10, nI_leI (by omega) (by omega)] at zc30
      exact absurd zc30 (by omega)
    · rw [h10, nI_leI (by omega) (by omega)] at zc30
      refine g_blk (pc' := 40) (loc' := [some (vR (8, 0, 0)), some (vI had), some (vI (nI p)), none]) (st' := [vI ((2 : Int32) * (nI p)), vR (9, 4, 0)]) (σ' := sa σ f) fl5_ok [(33, .aload_n 0), (34, .getfield 22), (37, .iconst 2), (38, .iload_n 2), (39, .imul)] (by decide +kernel) rfl rfl ?_
      refine g_xld (n := 60) (k := (2 * p)) rfl (ix2 p) (by omega) (by decide) (by decide +kernel) ?_
      refine g_blk (pc' := 42) (loc' := [some (vR (8, 0, 0)), some (vI had), some (vI (nI p)), some (vI (σ.1 (9, 4, 0) (2 * p)))]) (st' := []) (σ' := sa σ f) fl5_ok [(41, .istore_n 3)] (by decide +kernel) rfl rfl ?_
      obtain ⟨⟨a, ha, hTa⟩, ⟨b, hb, hTb⟩⟩ := hok p (by omega)
      have hRa : σ.1 (9, 4, 0) (2 * p) = nI a := (hR p (by omega)).1.trans hTa
      have hRb : σ.1 (9, 4, 0) (2 * p + 1) = nI b := (hR p (by omega)).2.trans hTb
      rw [hRa]
      rw [loadF, hTa, hTb, nI_clamp (by omega), ← fin_gF ha hb] at hd
      refine lp_X5_ld2 l hb hRb (by omega) (b + 1 - a) a f S rfl (by omega) hE hV (fun f' E' V' => ?_)
      refine g_blk (pc' := 25) (loc' := [some (vR (8, 0, 0)), some (vI had), some (vI ((nI p) + (1 : Int32))), none]) (st' := []) (σ' := sa σ f') fl5_ok [(90, .iinc 2 1), (93, .goto (-68))] (by decide +kernel) rfl rfl ?_
      rw [nI_1]
      exact ih (p + 1) f' _ (by omega) E' V' hd
set_option maxHeartbeats 2000000 in
theorem m_load (l : Launch) {σ : Sg} {f : Nat → Int32} {S : HA} {Hs : List HA} {P : PV} {n : Nat} (h : Mq_ S Hs P n f σ) (hn : n ≤ 1000000)  : Con l 4 yX5_load cX5_load 4 (some .int) [vR (8, 0, 0)] (sa σ f) (Mp_ (xload S Hs P) n σ) := by
  obtain ⟨hE, hV, ⟨h3, h6⟩, hA, h5, hP⟩ := id h
  obtain ⟨hb0, hb1, hb2, hb3⟩ := hE.1
  have hnr := hE.2.2.1.1
  have hna := hE.2.2.1.2.1
  have hnt := hE.2.2.1.2.2.1
  have hns := hE.2.2.1.2.2.2
  refine con_of pn_X5_load (Nat.le_of_ble_eq_true rfl) (fun hPK hok => ?_)
  show G l (Rm 4) RX5 cX5_load 4 (some .int) _ 0 [some (vR (8, 0, 0)), none, none, none] [] (sa σ f)
  refine g_blk (pc' := 1) (loc' := [some (vR (8, 0, 0)), none, none, none]) (st' := [vR (8, 0, 0)]) (σ' := sa σ f) fl5_ok [(0, .aload_n 0)] (by decide +kernel) rfl rfl ?_
  refine g_callV (8, 0, 0) [] [] vl_RX5_178 mi_X5_fault (c_X5_fault l (P := P) h.sa.2.2.2.2.1 h.sa.2.2.2.2.2) rfl rfl rfl rfl ⟨Nat.le_of_ble_eq_true rfl, Nat.le_of_ble_eq_true rfl⟩ rfl (Nat.le_of_ble_eq_true rfl) (by decide +kernel) (fun o τ1 hP1 => ?_)
  obtain ⟨rfl, hF, hRR⟩ := hP1
  have e9 : τ1.1 (9, 0, 0) = f := (hF.1 _ (by simp) (by simp)).trans (sa_at σ f)
  have es : τ1 = sa τ1 f := by
    have q := sa_self τ1
    rw [e9] at q
    exact q.symm
  have h1 : Mq_ S Hs P n f τ1 := h.sa.frR hF
  rw [es]
  refine g_blk (pc' := 6) (loc' := [some (vR (8, 0, 0)), none, none, none]) (st' := [vI (-6 : Int32), vI ((rdF P 61 0 T0).1)]) (σ' := sa τ1 f) fl5_ok [(4, .bipush (-6))] (by decide +kernel) rfl rfl ?_
  refine g_icmp_eq (off := 6) (tgt := 12) (by decide +kernel) (by decide) (fun zc6 => ?_) (fun zc6 => ?_)
  · refine g_blk (pc' := 13) (loc' := [some (vR (8, 0, 0)), none, none, none]) (st' := [vR (8, 0, 0)]) (σ' := sa τ1 f) fl5_ok [(12, .aload_n 0)] (by decide +kernel) rfl rfl ?_
    refine g_callV (8, 0, 0) [] [] vl_RX5_33 mi_X5_keep (con_keep2 l h1) rfl rfl rfl rfl ⟨Nat.le_of_ble_eq_true rfl, Nat.le_of_ble_eq_true rfl⟩ rfl (Nat.le_of_ble_eq_true rfl) (by decide +kernel) (fun o τ0 hP0 => ?_)
    obtain ⟨rfl, τ, rfl, hK, k3, k4⟩ := hP0
    refine g_blk (pc' := 25) (loc' := [some (vR (8, 0, 0)), some (vI (f 5)), some (vI (0 : Int32)), none]) (st' := []) (σ' := sa τ f) fl5_ok [(16, .aload_n 0), (17, .getfield 7), (20, .iconst 5), (21, .iaload), (22, .istore_n 1), (23, .iconst 0), (24, .istore_n 2)] (by decide +kernel) rfl rfl ?_
    obtain ⟨hR, h10⟩ := hRR zc6
    have hR2 : RR (rdF P 61 0 T0).2 τ := fun r hr => by rw [k3 (9, 4, 0) (by simp) (by simp) (by simp)]; exact hR r hr
    have h102 := (k4 10 (by decide)).trans h10
    have h30 := rd_len hP.1 hP.2.1 61 0 T0 (Nat.le_refl _) (by decide)
    have hok : ∀ r, r < (rdF P 61 0 T0).2.1 → (∃ a, a ≤ 99 ∧ (rdF P 61 0 T0).2.2 r 0 = nI a) ∧ ∃ b, b ≤ 99 ∧ (rdF P 61 0 T0).2.2 r 1 = nI b := fun r hr => ⟨rd_ok 61 0 T0 (fun _ r hr => absurd hr (Nat.not_lt_zero r)) h30 r hr, rd_ok2 61 0 T0 (fun _ r hr => absurd hr (Nat.not_lt_zero r)) h30 r hr⟩
    refine g_sub (loc' := [some (vR (8, 0, 0)), some (vI (f 5)), some (vI (nI 0)), none]) ⟨Or.inr rfl, Or.inr rfl, Or.inr rfl, Or.inl rfl, trivial⟩ (g_mono (lp_X5_ld1 l (Sf := loadS2 S P) hR2 h102 h30 hok (rdF P 61 0 T0).2.1 0 f S (by omega) hE hV rfl) (fun o σ' hp => ?_))
    obtain ⟨f', E', V', rfl, e⟩ := hp
    obtain ⟨τ2, f2, e1, e2, e3⟩ := mq_wipe (hK.2 _ f' n (Nat.le_refl _) E' V').sa (sa_at τ f') e
    have hx : xload S Hs P = ((loadS2 S P).2 7 - S.2 7, (loadS2 S P, (keepL Hs S, P0))) := by rw [xload, if_pos zc6]
    rw [hx]
    exact ⟨by rw [E'.2.1.2.2.1, hE.2.1.2.2.1], τ2, f2, e1, e2.le (by omega), (FrM.sa.tr hF.m).tr (hK.1.tr (FrM.sa.tr e3))⟩
  · refine g_blk (pc' := 11) (loc' := [some (vR (8, 0, 0)), none, none, none]) (st' := [vI (-3 : Int32)]) (σ' := sa τ1 f) fl5_ok [(9, .bipush (-3))] (by decide +kernel) rfl rfl ?_
    have hx : xload S Hs P = (-3, (S, (Hs, P))) := by rw [xload, if_neg zc6]
    rw [hx]
    exact g_iret (by decide +kernel) ⟨rfl, τ1, f, rfl, h1.le (by omega), FrM.sa.tr hF.m⟩
