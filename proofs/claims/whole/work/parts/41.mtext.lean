/-! THE MODEL: undo, put (laid by wip/whole/mk41.py) -/
-- ---- undo
theorem undo_ok {S : HA} {Hs : List HA} {P : PV} {n m : Nat} {f : Nat → Int32} {σ σ1 σ' : Sg} (h : Mq_ S Hs P n f σ) (hl : Hs.length = m + 1) (e : (upd2 (sa σ f).1 (8, 0, 0) 3 (nI m), (sa σ f).2) = σ1) (hc : CP (9, 0, 0) 0 (fun k => σ1.1 (9, 2, 0) (162 * m + k)) 162 σ1 σ') : ∃ τ f', σ' = sa τ f' ∧ Mq_ (Hs.getD (Hs.length - 1) S) Hs.dropLast P n f' τ ∧ FrM σ τ := by
  obtain ⟨p, q, r⟩ := f8 e
  obtain ⟨hE, hV, ⟨h3, h6⟩, hA, h5, hP⟩ := h
  have s8 : (sa σ f).1 (8, 0, 0) = σ.1 (8, 0, 0) := sa_ne σ f (by simp)
  have e92 : σ1.1 (9, 2, 0) = σ.1 (9, 2, 0) := (r.1 _ (by simp)).trans (sa_ne σ f (by simp))
  have e92' : σ'.1 (9, 2, 0) = σ.1 (9, 2, 0) := (hc.1.1 _ (by simp)).trans e92
  have e93 : σ'.1 (9, 3, 0) = σ.1 (9, 3, 0) := (hc.1.1 _ (by simp)).trans ((r.1 _ (by simp)).trans (sa_ne σ f (by simp)))
  have e8 : σ'.1 (8, 0, 0) = σ1.1 (8, 0, 0) := hc.1.1 _ (by simp)
  have hT : Hs[m]? = some (Hs.getD (Hs.length - 1) S) := by
    rw [show Hs.length - 1 = m by omega, List.getD_eq_getElem?_getD, List.getElem?_eq_getElem (by omega)]
    rfl
  refine ⟨σ', σ'.1 (9, 0, 0), (sa_self σ').symm, ⟨ED_congr (hA m _ hT).1 (fun k hk => ?_), (hA m _ hT).2, ⟨by rw [e8, p, List.length_dropLast, hl]; rfl, by rw [List.length_dropLast]; omega⟩, fun i T hi => ?_, by rw [e8, q 5 (by decide), s8]; exact h5, ptx_fr e93 hP⟩, ?_⟩
  · have := cp_in hc hk
    rw [Nat.zero_add] at this
    rw [this, e92]
  · rw [List.getElem?_dropLast] at hi
    split at hi
    · rw [e92']
      exact hA i T hi
    · cases hi
  · refine FrM.tr FrM.sa (FrM.tr (show FrM (sa σ f) σ1 from ?_) ⟨fun q hq => hc.1.1 q (fun z => by rw [z] at hq; exact absurd hq (by decide)), hc.1.2⟩)
    rw [← e]
    exact FrM.up (by decide)
-- ---- the characters
def uN (x : Int64) : Nat := x.toUInt64.toNat
theorem uN_lt (x : Int64) : uN x < 18446744073709551616 := x.toUInt64.toNat_lt
theorem uN_inj {x y : Int64} (h : uN x = uN y) : x = y := congrArg UInt64.toInt64 (UInt64.toNat_inj.mp h)
theorem uN_shr (x : Int64) (s : UInt64) : uN (x.toUInt64 >>> s).toInt64 = uN x / 2 ^ (s.toNat % 64) := by
  show (x.toUInt64 >>> s).toNat = _
  rw [UInt64.toNat_shiftRight, Nat.shiftRight_eq_div_pow]
  rfl
theorem uN_and (x : Int64) : uN (x &&& 255) = uN x % 256 := by
  show (x.toUInt64 &&& Int64.toUInt64 255).toNat = _
  rw [UInt64.toNat_and]
  exact Nat.and_two_pow_sub_one_eq_mod _ 8
theorem uN_int (x : Int64) : x.toInt = if 2 * uN x < 18446744073709551616 then (uN x : Int) else (uN x : Int) - 18446744073709551616 := BitVec.toInt_eq_toNat_cond _
theorem l_shr (x s : Int64) (k : Nat) (hs : (s.toBitVec.smod 64).toNat = k) : (x >>> s).toInt = x.toInt / 2 ^ k := by
  show (x.toBitVec.sshiftRight (s.toBitVec.smod 64).toNat).toInt = _
  rw [hs, BitVec.toInt_sshiftRight, Int.shiftRight_eq_div_pow]
  rfl
theorem ch_and (x : Int64) : ∀ j, j < 8 → (x >>> (((8 : Int32) * nI j).toInt64 &&& 63)) &&& 255 = (x.toUInt64 >>> (((8 : Int32) * nI j).toInt64.toUInt64 &&& Int64.toUInt64 63)).toInt64 &&& 255
  | 0, _ => by
    have e1 := l_shr x (((8 : Int32) * nI 0).toInt64 &&& 63) 0 (by decide)
    refine uN_inj ?_
    rw [uN_and, uN_and, uN_shr, show (((8 : Int32) * nI 0).toInt64.toUInt64 &&& Int64.toUInt64 63).toNat % 64 = 0 by decide]
    rw [uN_int, uN_int] at e1
    generalize uN (x >>> (((8 : Int32) * nI 0).toInt64 &&& 63)) = v at e1 ⊢
    have := uN_lt x
    generalize uN x = u at e1 this ⊢
    split at e1 <;> split at e1 <;> omega
  | 1, _ => by
    have e1 := l_shr x (((8 : Int32) * nI 1).toInt64 &&& 63) 8 (by decide)
    refine uN_inj ?_
    rw [uN_and, uN_and, uN_shr, show (((8 : Int32) * nI 1).toInt64.toUInt64 &&& Int64.toUInt64 63).toNat % 64 = 8 by decide]
    rw [uN_int, uN_int] at e1
    generalize uN (x >>> (((8 : Int32) * nI 1).toInt64 &&& 63)) = v at e1 ⊢
    have := uN_lt x
    generalize uN x = u at e1 this ⊢
    split at e1 <;> split at e1 <;> omega
  | 2, _ => by
    have e1 := l_shr x (((8 : Int32) * nI 2).toInt64 &&& 63) 16 (by decide)
    refine uN_inj ?_
    rw [uN_and, uN_and, uN_shr, show (((8 : Int32) * nI 2).toInt64.toUInt64 &&& Int64.toUInt64 63).toNat % 64 = 16 by decide]
    rw [uN_int, uN_int] at e1
    generalize uN (x >>> (((8 : Int32) * nI 2).toInt64 &&& 63)) = v at e1 ⊢
    have := uN_lt x
    generalize uN x = u at e1 this ⊢
    split at e1 <;> split at e1 <;> omega
  | 3, _ => by
    have e1 := l_shr x (((8 : Int32) * nI 3).toInt64 &&& 63) 24 (by decide)
    refine uN_inj ?_
    rw [uN_and, uN_and, uN_shr, show (((8 : Int32) * nI 3).toInt64.toUInt64 &&& Int64.toUInt64 63).toNat % 64 = 24 by decide]
    rw [uN_int, uN_int] at e1
    generalize uN (x >>> (((8 : Int32) * nI 3).toInt64 &&& 63)) = v at e1 ⊢
    have := uN_lt x
    generalize uN x = u at e1 this ⊢
    split at e1 <;> split at e1 <;> omega
  | 4, _ => by
    have e1 := l_shr x (((8 : Int32) * nI 4).toInt64 &&& 63) 32 (by decide)
    refine uN_inj ?_
    rw [uN_and, uN_and, uN_shr, show (((8 : Int32) * nI 4).toInt64.toUInt64 &&& Int64.toUInt64 63).toNat % 64 = 32 by decide]
    rw [uN_int, uN_int] at e1
    generalize uN (x >>> (((8 : Int32) * nI 4).toInt64 &&& 63)) = v at e1 ⊢
    have := uN_lt x
    generalize uN x = u at e1 this ⊢
    split at e1 <;> split at e1 <;> omega
  | 5, _ => by
    have e1 := l_shr x (((8 : Int32) * nI 5).toInt64 &&& 63) 40 (by decide)
    refine uN_inj ?_
    rw [uN_and, uN_and, uN_shr, show (((8 : Int32) * nI 5).toInt64.toUInt64 &&& Int64.toUInt64 63).toNat % 64 = 40 by decide]
    rw [uN_int, uN_int] at e1
    generalize uN (x >>> (((8 : Int32) * nI 5).toInt64 &&& 63)) = v at e1 ⊢
    have := uN_lt x
    generalize uN x = u at e1 this ⊢
    split at e1 <;> split at e1 <;> omega
  | 6, _ => by
    have e1 := l_shr x (((8 : Int32) * nI 6).toInt64 &&& 63) 48 (by decide)
    refine uN_inj ?_
    rw [uN_and, uN_and, uN_shr, show (((8 : Int32) * nI 6).toInt64.toUInt64 &&& Int64.toUInt64 63).toNat % 64 = 48 by decide]
    rw [uN_int, uN_int] at e1
    generalize uN (x >>> (((8 : Int32) * nI 6).toInt64 &&& 63)) = v at e1 ⊢
    have := uN_lt x
    generalize uN x = u at e1 this ⊢
    split at e1 <;> split at e1 <;> omega
  | 7, _ => by
    have e1 := l_shr x (((8 : Int32) * nI 7).toInt64 &&& 63) 56 (by decide)
    refine uN_inj ?_
    rw [uN_and, uN_and, uN_shr, show (((8 : Int32) * nI 7).toInt64.toUInt64 &&& Int64.toUInt64 63).toNat % 64 = 56 by decide]
    rw [uN_int, uN_int] at e1
    generalize uN (x >>> (((8 : Int32) * nI 7).toInt64 &&& 63)) = v at e1 ⊢
    have := uN_lt x
    generalize uN x = u at e1 this ⊢
    split at e1 <;> split at e1 <;> omega
  | j + 8, h => absurd h (by omega)
theorem ch_eq (x : Int64) {j : Nat} (hj : j < 8) : ((x >>> (((8 : Int32) * nI j).toInt64 &&& 63)) &&& 255).toInt32 = chC x j := by
  rw [ch_and x j hj, chC]
  generalize (x.toUInt64 >>> (((8 : Int32) * nI j).toInt64.toUInt64 &&& Int64.toUInt64 63)).toInt64 = y
  have hm : uN (y &&& 255) < 256 := by rw [uN_and]; omega
  have e : y &&& 255 = Int64.ofNat (uN (y &&& 255)) := by
    refine uN_inj ?_
    show _ = uN (y &&& 255) % 2 ^ 64
    omega
  rw [e]
  exact (by decide +kernel : ∀ m, m < 256 → (Int64.ofNat m).toInt32 = vp_nar .char (((Int64.ofNat m).toInt32.toUInt32 % 65536).toInt32)) _ hm
theorem appF_v (x : Int64) : ∀ (c : Nat) (P : PV) (i : Nat), (appF x c P).2 i = if P.1 ≤ i ∧ i < P.1 + c then chC x (c - 1 - (i - P.1)) else P.2 i
  | 0, P, i => by rw [if_neg (by omega)]; rfl
  | c + 1, P, i => by
    rw [appF, appF_v x c]
    show (if P.1 + 1 ≤ i ∧ i < P.1 + 1 + c then chC x (c - 1 - (i - (P.1 + 1))) else if i = P.1 then chC x c else P.2 i) = _
    by_cases q : P.1 + 1 ≤ i ∧ i < P.1 + 1 + c
    · rw [if_pos q, if_pos (by omega), show c + 1 - 1 - (i - P.1) = c - 1 - (i - (P.1 + 1)) by omega]
    · rw [if_neg q]
      by_cases q2 : i = P.1
      · rw [if_pos q2, if_pos (by omega), show c + 1 - 1 - (i - P.1) = c by omega]
      · rw [if_neg q2, if_neg (by omega)]
theorem cnt_stop {k m : Nat} {y : Int64} (h : y &&& 255 = 0) (hy : ¬ y = 0) : cntC (k + 1) y (nI m) = 0 := by
  rw [cntC, if_neg (fun z => hy ((lg_cmp_eq y 0).mp z)), h]
  exact if_neg (by decide)
theorem cnt_bad {k m : Nat} {y : Int64} (h : ¬ y &&& 255 = 0) (hb : isInS (y &&& 255).toInt32 33 126 = 0) : cntC (k + 1) y (nI m) = 0 := by
  rw [cntC, if_neg (fun z => h (by rw [(lg_cmp_eq y 0).mp z]; rfl)), if_neg (not_not_intro hb)]
theorem cnt_go {k m : Nat} {y : Int64} (h : ¬ y &&& 255 = 0) (hb : ¬ isInS (y &&& 255).toInt32 33 126 = 0) : cntC (k + 1) y (nI m) = cntC k (shr8 y) (nI (m + 1)) := by
  rw [cntC, if_neg (fun z => h (by rw [(lg_cmp_eq y 0).mp z]; rfl)), if_pos hb, nI_1]
theorem shr_lt {k : Nat} {y : Int64} (h : uN y < 2 ^ (8 * (k + 1))) : uN (shr8 y) < 2 ^ (8 * k) := by
  rw [shr8, uN_shr, show ((8 : Int32).toInt64.toUInt64 &&& Int64.toUInt64 63).toNat % 64 = 8 by decide]
  rw [show 8 * (k + 1) = 8 * k + 8 by omega, Nat.pow_add] at h
  exact Nat.div_lt_of_lt_mul (by rw [Nat.mul_comm]; exact h)
theorem put_ok {S : HA} {Hs : List HA} {P : PV} {n c : Nat} {x : Int64} {f : Nat → Int32} {σ σ1 σ2 : Sg} (h : Mq_ S Hs P n f σ) (hc60 : P.1 + c ≤ 60) (hc : CP (9, 3, 0) P.1 (fun i => chC x (c - 1 - i)) c (sa σ f) σ1) (e : (upd2 σ1.1 (8, 0, 0) 5 (nI (P.1 + c)), σ1.2) = σ2) : ∃ τ f', σ2 = sa τ f' ∧ Mq_ S Hs (appF x c P) n f' τ ∧ FrM σ τ := by
  obtain ⟨p, q, r⟩ := f8 e
  obtain ⟨hE, hV, ⟨h3, h6⟩, hA, h5, hP⟩ := h
  have eo : ∀ z : Lo, z ≠ (9, 3, 0) → z ≠ (8, 0, 0) → z ≠ (9, 0, 0) → σ2.1 z = σ.1 z := fun z z1 z2 z3 => (r.1 z z2).trans ((hc.1.1 z z1).trans (sa_ne σ f z3))
  have e9 : σ2.1 (9, 0, 0) = f := (r.1 _ (by simp)).trans ((hc.1.1 _ (by simp)).trans (sa_at σ f))
  have s := sa_self σ2
  rw [e9] at s
  have e92 := eo (9, 2, 0) (by simp) (by simp) (by simp)
  refine ⟨σ2, f, s.symm, ⟨hE, hV, ⟨?_, h6⟩, fun i T hi => by rw [e92]; exact hA i T hi, by rw [p, appF_1], ?_, fun i hi => ?_, fun i hi => ?_⟩, ⟨fun z hz => eo z (fun y => by rw [y] at hz; exact absurd hz (by decide)) (fun y => by rw [y] at hz; exact absurd hz (by decide)) (fun y => by rw [y] at hz; exact absurd hz (by decide)), r.2.trans hc.1.2⟩⟩
  · rw [q 3 (by decide), hc.1.1 _ (by simp), sa_ne σ f (by simp)]; exact h3
  · rw [appF_1]; exact hc60
  · rw [appF_1] at hi
    rw [appF_v, if_neg (by omega)]
    exact hP.2.1 i (by omega)
  · rw [appF_1] at hi
    rw [r.1 _ (by simp), hc.2, appF_v]
    by_cases z : P.1 ≤ i ∧ i < P.1 + c
    · rw [if_pos z, if_pos z]
    · rw [if_neg z, if_neg z, sa_ne σ f (by simp)]
      exact hP.2.2 i (by omega)
theorem nI_back {c j : Nat} (h : j < c) : nI c - (1 : Int32) - nI j = nI (c - 1 - j) := by
  obtain ⟨m, rfl⟩ : ∃ m, c = m + 1 := ⟨c - 1, by omega⟩
  rw [nI_pred, Int32.sub_eq_add_neg, nI_sub (by omega)]
  rfl
set_option maxHeartbeats 2000000 in
theorem m_undo (l : Launch) {σ : Sg} {f : Nat → Int32} {S : HA} {Hs : List HA} {P : PV} {n : Nat} (h : Mq_ S Hs P n f σ) (hn : n ≤ 1000000)  : Con l 0 yX5_undo cX5_undo 2 (some .int) [vR (8, 0, 0)] (sa σ f) (Mp_ (xundo S Hs P) n σ) := by
  obtain ⟨hE, hV, ⟨h3, h6⟩, hA, h5, hP⟩ := id h
  obtain ⟨hb0, hb1, hb2, hb3⟩ := hE.1
  have hnr := hE.2.2.1.1
  have hna := hE.2.2.1.2.1
  have hnt := hE.2.2.1.2.2.1
  have hns := hE.2.2.1.2.2.2
  refine con_of pn_X5_undo (Nat.le_of_ble_eq_true rfl) (fun hPK hok => ?_)
  show G l (Rm 0) RX5 cX5_undo 2 (some .int) _ 0 [some (vR (8, 0, 0)), none] [] (sa σ f)
  refine g_blk (pc' := 4) (loc' := [some (vR (8, 0, 0)), none]) (st' := [vI (σ.1 (8, 0, 0) 3)]) (σ' := sa σ f) fl5_ok [(0, .aload_n 0), (1, .getfield 25)] (by decide +kernel) rfl rfl ?_
  refine g_if_ne (off := 6) (tgt := 10) (by decide +kernel) (by decide) (fun zc4 => ?_) (fun zc4 => ?_)
  · rw [h3] at zc4
    refine g_blk (pc' := 22) (loc' := [some (vR (8, 0, 0)), some (vI (0 : Int32))]) (st' := []) (σ' := (upd2 (sa σ f).1 (8, 0, 0) 3 ((σ.1 (8, 0, 0) 3) - (1 : Int32)), (sa σ f).2)) fl5_ok [(10, .aload_n 0), (11, .dup), (12, .getfield 25), (15, .iconst 1), (16, .isub), (17, .putfield 25), (20, .iconst 0), (21, .istore_n 1)] (by decide +kernel) rfl rfl ?_
    generalize hσ1 : ((upd2 (sa σ f).1 (8, 0, 0) 3 ((σ.1 (8, 0, 0) 3) - (1 : Int32)), (sa σ f).2) : Sg) = σ1
    have hne : ¬ Hs.length = 0 := fun z => zc4 (by rw [z]; rfl)
    obtain ⟨m, hm⟩ : ∃ m, Hs.length = m + 1 := ⟨Hs.length - 1, by omega⟩
    have hσ1x := hσ1
    rw [h3, hm, nI_pred] at hσ1x
    refine g_mono (lp_X5_undo l (σ0 := σ1) (n := m) (by omega) (f8 hσ1x).1 162 0 σ1 (by omega) cp_0) (fun o σ' hp => ?_)
    obtain ⟨rfl, hc⟩ := hp
    obtain ⟨τ, f1, e1, e2, e3⟩ := undo_ok h hm hσ1x hc
    have hx : xundo S Hs P = (nI (Hs.length - 1), (Hs.getD (Hs.length - 1) S, (Hs.dropLast, P))) := by rw [xundo, if_neg (by omega)]
    rw [hx]
    exact ⟨by rw [hm]; rfl, τ, f1, e1, e2.le (by omega), e3⟩
  · rw [h3] at zc4
    refine g_blk (pc' := 9) (loc' := [some (vR (8, 0, 0)), none]) (st' := [vI (-5 : Int32)]) (σ' := sa σ f) fl5_ok [(7, .bipush (-5))] (by decide +kernel) rfl rfl ?_
    have hx : xundo S Hs P = (-5, (S, (Hs, P))) := by rw [xundo, if_pos ((nI_eq (b := 0) (by omega) (by decide)).mp zc4)]
    rw [hx]
    exact g_iret (by decide +kernel) ⟨rfl, σ, f, rfl, h.le (by omega), FrM.rf⟩
set_option maxHeartbeats 2000000 in
theorem lp_X5_put1 (l : Launch) {σ : Sg} {f : Nat → Int32} {S : HA} {Hs : List HA} {P : PV} {n : Nat} {x : Int64} (h : Mq_ S Hs P n f σ) (kk : ∀ c, 1 ≤ c → c ≤ 8 → cntC 8 x 0 = nI c → G l (Rm 1) RX5 cX5_put 7 (some .int) (Mp_ (xput S Hs P x) n σ) 69 [some (vR (8, 0, 0)), some (vL x), none, some (vI (nI c)), none, none, none] [] (sa σ f)) : ∀ (k m : Nat) (y : Int64), m + k = 8 → uN y < 2 ^ (8 * k) → cntC k y (nI m) = cntC 8 x 0 → G l (Rm 1) RX5 cX5_put 7 (some .int) (Mp_ (xput S Hs P x) n σ) 5 [some (vR (8, 0, 0)), some (vL x), none, some (vI (nI m)), some (vL y), none, none] [] (sa σ f) := by
  intro k
  induction k with
  | zero =>
    intro m y hk hy hd
    refine g_blk (pc' := 8) (loc' := [some (vR (8, 0, 0)), some (vL x), none, some (vI (nI m)), some (vL y), none, none]) (st' := [vI (8 : Int32), vI (nI m)]) (σ' := sa σ f) fl5_ok [(5, .iload_n 3), (6, .bipush 8)] (by decide +kernel) rfl rfl ?_
    refine g_icmp_ge (off := 47) (tgt := 55) (by decide +kernel) (by decide) (fun zc8 => ?_) (fun zc8 => ?_)
    · rw [show (8 : Int32) = nI 8 from rfl] at zc8
      rw [nI_leI (by omega) (by omega)] at zc8
      refine g_blk (pc' := 56) (loc' := [some (vR (8, 0, 0)), some (vL x), none, some (vI (nI m)), some (vL y), none, none]) (st' := [vI (nI m)]) (σ' := sa σ f) fl5_ok [(55, .iload_n 3)] (by decide +kernel) rfl rfl ?_
      refine g_if_eq (off := 10) (tgt := 66) (by decide +kernel) (by decide) (fun zc56 => ?_) (fun zc56 => ?_)
      · rw [show (0 : Int32) = nI 0 from rfl, nI_eq (by omega) (by decide)] at zc56
        refine g_blk (pc' := 68) (loc' := [some (vR (8, 0, 0)), some (vL x), none, some (vI (nI m)), some (vL y), none, none]) (st' := [vI (-2 : Int32)]) (σ' := sa σ f) fl5_ok [(66, .bipush (-2))] (by decide +kernel) rfl rfl ?_
        exact absurd zc56 (by omega)
      · rw [show (0 : Int32) = nI 0 from rfl, nI_eq (by omega) (by decide)] at zc56
        refine g_blk (pc' := 63) (loc' := [some (vR (8, 0, 0)), some (vL x), none, some (vI (nI m)), some (vL y), none, none]) (st' := [vI (lg_cmp y (0 : Int64))]) (σ' := sa σ f) fl5_ok [(59, .lload 4), (61, .lconst 0), (62, .lcmp)] (by decide +kernel) rfl rfl ?_
        refine g_if_eq (off := 6) (tgt := 69) (by decide +kernel) (by decide) (fun zc63 => ?_) (fun zc63 => ?_)
        · rw [lg_cmp_eq] at zc63
          have hC : cntC 8 x 0 = nI m := by rw [← hd]; rfl
          exact g_sub (loc' := [some (vR (8, 0, 0)), some (vL x), none, some (vI (nI m)), none, none, none]) ⟨Or.inr rfl, Or.inr rfl, Or.inl rfl, Or.inr rfl, Or.inl rfl, Or.inl rfl, Or.inl rfl, trivial⟩ (kk m (by omega) (by omega) hC)
        · rw [lg_cmp_eq] at zc63
          refine g_blk (pc' := 68) (loc' := [some (vR (8, 0, 0)), some (vL x), none, some (vI (nI m)), some (vL y), none, none]) (st' := [vI (-2 : Int32)]) (σ' := sa σ f) fl5_ok [(66, .bipush (-2))] (by decide +kernel) rfl rfl ?_
          exact absurd (uN_inj (y := 0) (show uN y = 0 by have : uN y < 2 ^ (8 * 0) := hy; omega)) zc63
    · rw [show (8 : Int32) = nI 8 from rfl] at zc8
      rw [nI_leI (by omega) (by omega)] at zc8
      exact absurd (by omega) zc8
  | succ k ih =>
    intro m y hk hy hd
    refine g_blk (pc' := 8) (loc' := [some (vR (8, 0, 0)), some (vL x), none, some (vI (nI m)), some (vL y), none, none]) (st' := [vI (8 : Int32), vI (nI m)]) (σ' := sa σ f) fl5_ok [(5, .iload_n 3), (6, .bipush 8)] (by decide +kernel) rfl rfl ?_
    refine g_icmp_ge (off := 47) (tgt := 55) (by decide +kernel) (by decide) (fun zc8 => ?_) (fun zc8 => ?_)
    · rw [show (8 : Int32) = nI 8 from rfl] at zc8
      rw [nI_leI (by omega) (by omega)] at zc8
      exact absurd zc8 (by omega)
    · rw [show (8 : Int32) = nI 8 from rfl] at zc8
      rw [nI_leI (by omega) (by omega)] at zc8
      refine g_blk (pc' := 13) (loc' := [some (vR (8, 0, 0)), some (vL x), none, some (vI (nI m)), some (vL y), none, none]) (st' := [vL y]) (σ' := sa σ f) fl5_ok [(11, .lload 4)] (by decide +kernel) rfl rfl ?_
      refine g_ldc2 (v := 255) kl_RX5 (by decide +kernel) ?_
      refine g_blk (pc' := 19) (loc' := [some (vR (8, 0, 0)), some (vL x), none, some (vI (nI m)), some (vL y), none, none]) (st' := [vI (lg_cmp (y &&& (255 : Int64)) (0 : Int64))]) (σ' := sa σ f) fl5_ok [(16, .land), (17, .lconst 0), (18, .lcmp)] (by decide +kernel) rfl rfl ?_
      refine g_if_eq (off := 36) (tgt := 55) (by decide +kernel) (by decide) (fun zc19 => ?_) (fun zc19 => ?_)
      · rw [lg_cmp_eq] at zc19
        refine g_blk (pc' := 56) (loc' := [some (vR (8, 0, 0)), some (vL x), none, some (vI (nI m)), some (vL y), none, none]) (st' := [vI (nI m)]) (σ' := sa σ f) fl5_ok [(55, .iload_n 3)] (by decide +kernel) rfl rfl ?_
        refine g_if_eq (off := 10) (tgt := 66) (by decide +kernel) (by decide) (fun zc56 => ?_) (fun zc56 => ?_)
        · rw [show (0 : Int32) = nI 0 from rfl, nI_eq (by omega) (by decide)] at zc56
          refine g_blk (pc' := 68) (loc' := [some (vR (8, 0, 0)), some (vL x), none, some (vI (nI m)), some (vL y), none, none]) (st' := [vI (-2 : Int32)]) (σ' := sa σ f) fl5_ok [(66, .bipush (-2))] (by decide +kernel) rfl rfl ?_
          have hC : cntC 8 x 0 = 0 := by
            rw [← hd]
            by_cases q : y = 0
            · rw [cntC, if_pos ((lg_cmp_eq y 0).mpr q), zc56]; rfl
            · exact cnt_stop zc19 q
          have hx : xput S Hs P x = (-2, (S, (Hs, P))) := by rw [xput, if_neg (not_not_intro hC)]
          rw [hx]
          exact g_iret (by decide +kernel) ⟨rfl, σ, f, rfl, h.le (by omega), FrM.rf⟩
        · rw [show (0 : Int32) = nI 0 from rfl, nI_eq (by omega) (by decide)] at zc56
          refine g_blk (pc' := 63) (loc' := [some (vR (8, 0, 0)), some (vL x), none, some (vI (nI m)), some (vL y), none, none]) (st' := [vI (lg_cmp y (0 : Int64))]) (σ' := sa σ f) fl5_ok [(59, .lload 4), (61, .lconst 0), (62, .lcmp)] (by decide +kernel) rfl rfl ?_
          refine g_if_eq (off := 6) (tgt := 69) (by decide +kernel) (by decide) (fun zc63 => ?_) (fun zc63 => ?_)
          · rw [lg_cmp_eq] at zc63
            have hC : cntC 8 x 0 = nI m := by rw [← hd, cntC, if_pos ((lg_cmp_eq y 0).mpr zc63)]
            exact g_sub (loc' := [some (vR (8, 0, 0)), some (vL x), none, some (vI (nI m)), none, none, none]) ⟨Or.inr rfl, Or.inr rfl, Or.inl rfl, Or.inr rfl, Or.inl rfl, Or.inl rfl, Or.inl rfl, trivial⟩ (kk m (by omega) (by omega) hC)
          · rw [lg_cmp_eq] at zc63
            refine g_blk (pc' := 68) (loc' := [some (vR (8, 0, 0)), some (vL x), none, some (vI (nI m)), some (vL y), none, none]) (st' := [vI (-2 : Int32)]) (σ' := sa σ f) fl5_ok [(66, .bipush (-2))] (by decide +kernel) rfl rfl ?_
            have hC : cntC 8 x 0 = 0 := by rw [← hd]; exact cnt_stop zc19 zc63
            have hx : xput S Hs P x = (-2, (S, (Hs, P))) := by rw [xput, if_neg (not_not_intro hC)]
            rw [hx]
            exact g_iret (by decide +kernel) ⟨rfl, σ, f, rfl, h.le (by omega), FrM.rf⟩
      · rw [lg_cmp_eq] at zc19
        refine g_blk (pc' := 24) (loc' := [some (vR (8, 0, 0)), some (vL x), none, some (vI (nI m)), some (vL y), none, none]) (st' := [vL y]) (σ' := sa σ f) fl5_ok [(22, .lload 4)] (by decide +kernel) rfl rfl ?_
        refine g_ldc2 (v := 255) kl_RX5 (by decide +kernel) ?_
        refine g_blk (pc' := 33) (loc' := [some (vR (8, 0, 0)), some (vL x), none, some (vI (nI m)), some (vL y), none, none]) (st' := [vI (126 : Int32), vI (33 : Int32), vI ((y &&& (255 : Int64)).toInt32)]) (σ' := sa σ f) fl5_ok [(27, .land), (28, .l2i), (29, .bipush 33), (31, .bipush 126)] (by decide +kernel) rfl rfl ?_
        refine g_callSp [vI ((y &&& (255 : Int64)).toInt32), vI (33 : Int32), vI (126 : Int32)] [] sl_RX5_29 mi_X5_in (c_X5_in l ((y &&& (255 : Int64)).toInt32) (33 : Int32) (126 : Int32)) rfl ⟨Nat.le_of_ble_eq_true rfl, Nat.le_of_ble_eq_true rfl⟩ rfl (Nat.le_of_ble_eq_true rfl) (by decide +kernel) ?_
        refine g_if_ne (off := 6) (tgt := 42) (by decide +kernel) (by decide) (fun zc36 => ?_) (fun zc36 => ?_)
        · refine g_blk (pc' := 5) (loc' := [some (vR (8, 0, 0)), some (vL x), none, some (vI ((nI m) + (1 : Int32))), some (vL ((y.toUInt64 >>> ((8 : Int32).toInt64.toUInt64 &&& Int64.toUInt64 63)).toInt64)), none, none]) (st' := []) (σ' := sa σ f) fl5_ok [(42, .iinc 3 1), (45, .lload 4), (47, .bipush 8), (49, .lushr), (50, .lstore 4), (52, .goto (-47))] (by decide +kernel) rfl rfl ?_
          rw [cnt_go zc19 zc36] at hd
          rw [nI_1]
          exact ih (m + 1) (shr8 y) (by omega) (shr_lt hy) hd
        · refine g_blk (pc' := 41) (loc' := [some (vR (8, 0, 0)), some (vL x), none, some (vI (nI m)), some (vL y), none, none]) (st' := [vI (-2 : Int32)]) (σ' := sa σ f) fl5_ok [(39, .bipush (-2))] (by decide +kernel) rfl rfl ?_
          have hC : cntC 8 x 0 = 0 := by rw [← hd]; exact cnt_bad zc19 zc36
          have hx : xput S Hs P x = (-2, (S, (Hs, P))) := by rw [xput, if_neg (not_not_intro hC)]
          rw [hx]
          exact g_iret (by decide +kernel) ⟨rfl, σ, f, rfl, h.le (by omega), FrM.rf⟩
set_option maxHeartbeats 2000000 in
theorem lp_X5_put2 (l : Launch) {σ : Sg} {f : Nat → Int32} {S : HA} {Hs : List HA} {P : PV} {n : Nat} {x : Int64} (h : Mq_ S Hs P n f σ) {c : Nat} (hc8 : c ≤ 8) (hc1 : 1 ≤ c) (hcn : cntC 8 x 0 = nI c) (hc60 : P.1 + c ≤ 60) : ∀ (k j : Nat) (τ : Sg), j + k = c → CP (9, 3, 0) P.1 (fun i => chC x (c - 1 - i)) j (sa σ f) τ → G l (Rm 1) RX5 cX5_put 7 (some .int) (Mp_ (xput S Hs P x) n σ) 86 [some (vR (8, 0, 0)), some (vL x), none, some (vI (nI c)), none, none, some (vI (nI j))] [] (τ) := by
  intro k
  induction k with
  | zero =>
    intro j τ hk hc
    refine g_blk (pc' := 89) (loc' := [some (vR (8, 0, 0)), some (vL x), none, some (vI (nI c)), none, none, some (vI (nI j))]) (st' := [vI (nI c), vI (nI j)]) (σ' := τ) fl5_ok [(86, .iload 6), (88, .iload_n 3)] (by decide +kernel) rfl rfl ?_
    refine g_icmp_ge (off := 37) (tgt := 126) (by decide +kernel) (by decide) (fun zc89 => ?_) (fun zc89 => ?_)
    · rw [nI_leI (by omega) (by omega)] at zc89
      refine g_blk (pc' := 140) (loc' := [some (vR (8, 0, 0)), some (vL x), none, some (vI (nI c)), none, none, some (vI (nI j))]) (st' := [vI ((upd2 τ.1 (8, 0, 0) 5 ((τ.1 (8, 0, 0) 5) + (nI c)), τ.2).1 (8, 0, 0) 5)]) (σ' := (upd2 τ.1 (8, 0, 0) 5 ((τ.1 (8, 0, 0) 5) + (nI c)), τ.2)) fl5_ok [(126, .aload_n 0), (127, .dup), (128, .getfield 142), (131, .iload_n 3), (132, .iadd), (133, .putfield 142), (136, .aload_n 0), (137, .getfield 142)] (by decide +kernel) rfl rfl ?_
      generalize hσ1 : ((upd2 τ.1 (8, 0, 0) 5 ((τ.1 (8, 0, 0) 5) + (nI c)), τ.2) : Sg) = σ1
      obtain rfl : j = c := by omega
      have hσ1x := hσ1
      rw [(show τ.1 (8, 0, 0) 5 = nI P.1 by rw [hc.1.1 _ (by simp), sa_ne σ f (by simp)]; exact h.2.2.2.2.1), nI_add] at hσ1x
      obtain ⟨τ1, f1, e1, e2, e3⟩ := put_ok h hc60 hc hσ1x
      have hj0 : ¬ nI j = 0 := fun z => absurd ((nI_eq (b := 0) (by omega) (by decide)).mp z) (by omega)
      have hx : xput S Hs P x = (nI (P.1 + j), (S, (Hs, appF x j P))) := by rw [xput, hcn, if_pos hj0, nI_add, if_pos (show nI (P.1 + j) ≤ (60 : Int32) from nI_le (b := 60) hc60 (by decide)), nI_clamp (by omega)]
      rw [hx]
      exact g_iret (by decide +kernel) ⟨congrArg (fun z => some (vI z)) (f8 hσ1x).1, τ1, f1, e1, e2.le (by omega), e3⟩
    · rw [nI_leI (by omega) (by omega)] at zc89
      exact absurd (by omega) zc89
  | succ k ih =>
    intro j τ hk hc
    refine g_blk (pc' := 89) (loc' := [some (vR (8, 0, 0)), some (vL x), none, some (vI (nI c)), none, none, some (vI (nI j))]) (st' := [vI (nI c), vI (nI j)]) (σ' := τ) fl5_ok [(86, .iload 6), (88, .iload_n 3)] (by decide +kernel) rfl rfl ?_
    refine g_icmp_ge (off := 37) (tgt := 126) (by decide +kernel) (by decide) (fun zc89 => ?_) (fun zc89 => ?_)
    · rw [nI_leI (by omega) (by omega)] at zc89
      exact absurd zc89 (by omega)
    · rw [nI_leI (by omega) (by omega)] at zc89
      refine g_blk (pc' := 114) (loc' := [some (vR (8, 0, 0)), some (vL x), none, some (vI (nI c)), none, none, some (vI (nI j))]) (st' := [vL (x >>> (((8 : Int32) * (((nI c) - (1 : Int32)) - (nI j))).toInt64 &&& 63)), vI ((τ.1 (8, 0, 0) 5) + (nI j)), vR (9, 3, 0)]) (σ' := τ) fl5_ok [(92, .aload_n 0), (93, .getfield 19), (96, .aload_n 0), (97, .getfield 142), (100, .iload 6), (102, .iadd), (103, .lload_n 1), (104, .bipush 8), (106, .iload_n 3), (107, .iconst 1), (108, .isub), (109, .iload 6), (111, .isub), (112, .imul), (113, .lshr)] (by decide +kernel) rfl rfl ?_
      refine g_ldc2 (v := 255) kl_RX5 (by decide +kernel) ?_
      refine g_blk (pc' := 119) (loc' := [some (vR (8, 0, 0)), some (vL x), none, some (vI (nI c)), none, none, some (vI (nI j))]) (st' := [vI (((x >>> (((8 : Int32) * (((nI c) - (1 : Int32)) - (nI j))).toInt64 &&& 63)) &&& (255 : Int64)).toInt32), vI ((τ.1 (8, 0, 0) 5) + (nI j)), vR (9, 3, 0)]) (σ' := τ) fl5_ok [(117, .land), (118, .l2i)] (by decide +kernel) rfl rfl ?_
      refine g_xst (n := 60) (k := (P.1 + j)) rfl (by rw [(show τ.1 (8, 0, 0) 5 = nI P.1 by rw [hc.1.1 _ (by simp), sa_ne σ f (by simp)]; exact h.2.2.2.2.1)]; exact nI_add _ _) (by omega) (by decide) (by decide +kernel) ?_
      refine g_blk (pc' := 86) (loc' := [some (vR (8, 0, 0)), some (vL x), none, some (vI (nI c)), none, none, some (vI ((nI j) + (1 : Int32)))]) (st' := []) (σ' := (upd2 τ.1 (9, 3, 0) (P.1 + j) (((x >>> (((8 : Int32) * (((nI c) - (1 : Int32)) - (nI j))).toInt64 &&& 63)) &&& (255 : Int64)).toInt32), τ.2)) fl5_ok [(120, .iinc 6 1), (123, .goto (-37))] (by decide +kernel) rfl rfl ?_
      have hs := cp_s hc (v := chC x (c - 1 - j)) rfl
      rw [nI_1]
      rw [nI_back (show j < c by omega), ch_eq x (show c - 1 - j < 8 by omega)]
      exact ih (j + 1) _ (by omega) hs
set_option maxHeartbeats 2000000 in
theorem m_put (l : Launch) {σ : Sg} {f : Nat → Int32} {S : HA} {Hs : List HA} {P : PV} {n : Nat} (h : Mq_ S Hs P n f σ) (hn : n ≤ 1000000) (x : Int64) : Con l 1 yX5_put cX5_put 7 (some .int) [vR (8, 0, 0), vL x] (sa σ f) (Mp_ (xput S Hs P x) n σ) := by
  obtain ⟨hE, hV, ⟨h3, h6⟩, hA, h5, hP⟩ := id h
  obtain ⟨hb0, hb1, hb2, hb3⟩ := hE.1
  have hnr := hE.2.2.1.1
  have hna := hE.2.2.1.2.1
  have hnt := hE.2.2.1.2.2.1
  have hns := hE.2.2.1.2.2.2
  refine con_of pn_X5_put (Nat.le_of_ble_eq_true rfl) (fun hPK hok => ?_)
  show G l (Rm 1) RX5 cX5_put 7 (some .int) _ 0 [some (vR (8, 0, 0)), some (vL x), none, none, none, none, none] [] (sa σ f)
  refine g_blk (pc' := 5) (loc' := [some (vR (8, 0, 0)), some (vL x), none, some (vI (0 : Int32)), some (vL x), none, none]) (st' := []) (σ' := sa σ f) fl5_ok [(0, .iconst 0), (1, .istore_n 3), (2, .lload_n 1), (3, .lstore 4)] (by decide +kernel) rfl rfl ?_
  refine g_sub (loc' := [some (vR (8, 0, 0)), some (vL x), none, some (vI (nI 0)), some (vL x), none, none]) ⟨Or.inr rfl, Or.inr rfl, Or.inl rfl, Or.inr rfl, Or.inr rfl, Or.inl rfl, Or.inl rfl, trivial⟩ (lp_X5_put1 l h (fun c hc1 hc8 hcn => ?_) 8 0 x rfl (uN_lt x) rfl)
  refine g_blk (pc' := 77) (loc' := [some (vR (8, 0, 0)), some (vL x), none, some (vI (nI c)), none, none, none]) (st' := [vI (60 : Int32), vI ((σ.1 (8, 0, 0) 5) + (nI c))]) (σ' := sa σ f) fl5_ok [(69, .aload_n 0), (70, .getfield 142), (73, .iload_n 3), (74, .iadd), (75, .bipush 60)] (by decide +kernel) rfl rfl ?_
  refine g_icmp_le (off := 6) (tgt := 83) (by decide +kernel) (by decide) (fun zc77 => ?_) (fun zc77 => ?_)
  · rw [h5, nI_add] at zc77
    have hc60 : P.1 + c ≤ 60 := (nI_leI (b := 60) (by have := hP.1; omega) (by decide)).mp zc77
    refine g_blk (pc' := 86) (loc' := [some (vR (8, 0, 0)), some (vL x), none, some (vI (nI c)), none, none, some (vI (0 : Int32))]) (st' := []) (σ' := sa σ f) fl5_ok [(83, .iconst 0), (84, .istore 6)] (by decide +kernel) rfl rfl ?_
    exact lp_X5_put2 l h hc8 hc1 hcn hc60 c 0 (sa σ f) (by omega) cp_0
  · rw [h5, nI_add] at zc77
    refine g_blk (pc' := 82) (loc' := [some (vR (8, 0, 0)), some (vL x), none, some (vI (nI c)), none, none, none]) (st' := [vI (-4 : Int32)]) (σ' := sa σ f) fl5_ok [(80, .bipush (-4))] (by decide +kernel) rfl rfl ?_
    have hj0 : ¬ nI c = 0 := fun z => absurd ((nI_eq (b := 0) (by omega) (by decide)).mp z) (by omega)
    have hx : xput S Hs P x = (-4, (S, (Hs, P))) := by rw [xput, hcn, if_pos hj0, nI_add, if_neg zc77]
    rw [hx]
    exact g_iret (by decide +kernel) ⟨rfl, σ, f, rfl, h.le (by omega), FrM.rf⟩
