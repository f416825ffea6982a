/-! ends() of the law -/
def fillF (f : Nat → Int32) (n : Nat) : Nat → Int32 := fun j => if j < n then f j else 0
theorem fill_0 {f : Nat → Int32} : (fun _ => 0 : Nat → Int32) = fillF f 0 := by
  funext j
  exact (if_neg (Nat.not_lt_zero j)).symm
theorem fill_at {f : Nat → Int32} {n j : Nat} (h : j < n) : fillF f n j = f j := if_pos h
theorem fill_s {f : Nat → Int32} {i : Nat} : upd (fillF f i) i (f i) = fillF f (i + 1) := by
  funext j
  by_cases q : j = i
  · rw [q, up_at, fill_at (by omega)]
  · rw [up_ne q]
    unfold fillF
    by_cases q2 : j < i
    · rw [if_pos q2, if_pos (by omega)]
    · rw [if_neg q2, if_neg (by omega)]
theorem fill_u {f g : Nat → Int32} {n i : Nat} {v : Int32} (hi : i < n) (hv : v = g i) (h : ∀ j, j ≠ i → f j = g j) : upd (fillF f n) i v = fillF g n := by
  funext j
  by_cases q : j = i
  · rw [q, up_at, fill_at hi, hv]
  · rw [up_ne q]
    unfold fillF
    rw [h j q]
def dE (S : HA) (r : Nat) : Nat → Int32
  | 0 => ce S 0 r 4
  | t + 1 => if ce S 2 t 3 = 0 ∧ ce S 2 t 1 = nI r then dE S r t + ce S 2 t 2 else dE S r t
def pE (S : HA) (r : Nat) : Nat → Int32
  | 0 => ce S 0 r 5
  | t + 1 => if ce S 2 t 3 = 0 ∧ ce S 2 t 1 = nI r then pE S r t + ce S 4 0 0 else pE S r t
theorem e4_n {S : HA} {t : Nat} (h : ¬ ce S 2 t 3 = 0) : fillF (fun r => dE S r t) (sz S 0) = fillF (fun r => dE S r (t + 1)) (sz S 0) := by
  congr 1
  funext r
  rw [dE, if_neg (fun z => h z.1)]
theorem e5_n {S : HA} {t : Nat} (h : ¬ ce S 2 t 3 = 0) : fillF (fun r => pE S r t) (sz S 0) = fillF (fun r => pE S r (t + 1)) (sz S 0) := by
  congr 1
  funext r
  rw [pE, if_neg (fun z => h z.1)]
theorem e4_z {S : HA} {t r : Nat} (h8 : sz S 0 ≤ 8) (hr : r < sz S 0) (hw : ce S 2 t 1 = nI r) (h : ce S 2 t 3 = 0) : upd (fillF (fun r => dE S r t) (sz S 0)) r (dE S r t + ce S 2 t 2) = fillF (fun r => dE S r (t + 1)) (sz S 0) := by
  funext j
  by_cases q : j = r
  · rw [q, up_at, fill_at hr, dE, if_pos ⟨h, hw⟩]
  · rw [up_ne q]
    unfold fillF
    by_cases q2 : j < sz S 0
    · rw [if_pos q2, if_pos q2]
      show dE S j t = dE S j (t + 1)
      rw [dE, if_neg (fun z => q ((nI_eq (by omega) (by omega)).mp (z.2.symm.trans hw)))]
    · rw [if_neg q2, if_neg q2]
theorem e5_z {S : HA} {t r : Nat} (h8 : sz S 0 ≤ 8) (hr : r < sz S 0) (hw : ce S 2 t 1 = nI r) (h : ce S 2 t 3 = 0) : upd (fillF (fun r => pE S r t) (sz S 0)) r (pE S r t + ce S 4 0 0) = fillF (fun r => pE S r (t + 1)) (sz S 0) := by
  funext j
  by_cases q : j = r
  · rw [q, up_at, fill_at hr, pE, if_pos ⟨h, hw⟩]
  · rw [up_ne q]
    unfold fillF
    by_cases q2 : j < sz S 0
    · rw [if_pos q2, if_pos q2]
      show pE S j t = pE S j (t + 1)
      rw [pE, if_neg (fun z => q ((nI_eq (by omega) (by omega)).mp (z.2.symm.trans hw)))]
    · rw [if_neg q2, if_neg q2]
theorem x_end1 {S : HA} {Hs : List HA} {P : PV} {w : Nat} (hw : S.2 5 = nI w) (h9 : w < 999) (h6 : ¬ S.2 6 = 0) : xend S Hs P = (cntL S (sz S 2), (endS S, (keepL Hs S, P))) := by
  rw [xend, if_neg h6, if_pos (by rw [hw]; exact (nI_ltI (b := 999) (by omega) (by decide)).mpr h9)]
  rfl
-- the turns that are skipped
def SK (S : HA) (t : Nat) (Y : HA) : Prop := (∀ j, sz Y j = sz S j) ∧ (∀ u c, ce Y 2 u c = ce S 2 u c) ∧ (∀ u c, ce Y 4 u c = ce S 4 u c) ∧ ∀ r, r < sz S 0 → ce Y 0 r 4 = dE S r t ∧ ce Y 0 r 5 = pE S r t
theorem sk_loop {S : HA} {n : Nat} (hV : V S n) : ∀ (k t : Nat) (Y : HA), t + k = sz S 2 → SK S t Y → SK S (sz S 2) (skipF k t Y)
  | 0, t, Y, hk, h => by
    obtain rfl : t = sz S 2 := by omega
    exact h
  | k + 1, t, Y, hk, h => by
    have hB := hV.1.2.1
    have hb := eb31 hB
    have h8 := hB.1
    obtain ⟨i1, i2, i3, i4⟩ := h
    have ht : t < sz S 2 := by omega
    have ho : openS Y (nI t) = if ce S 2 t 3 = 0 then 1 else 0 := by rw [open_n (by rw [i1]; omega) (by rw [i1]; exact ht), i2]
    rw [skipF, ho]
    refine sk_loop hV k (t + 1) _ (by omega) ?_
    obtain ⟨r, hr, hw⟩ := (hV.2.2.2.1 t ht).2.1
    by_cases q : ce S 2 t 3 = 0
    · rw [if_pos q, if_neg (by decide), skip_eq ⟨by rw [i1]; exact hB.1, by rw [i1]; exact hB.2.1, by rw [i1]; exact hB.2.2.1, by rw [i1]; exact hB.2.2.2⟩ (by rw [i1]; exact ht) (by rw [i1]; exact hr) (by rw [i2]; exact hw)]
      refine ⟨fun j => by rw [sz_F, skN, sz_W, sz_W, sz_W, i1], fun u c => by rw [ce_F, skN, ce_W_ne (by decide), ce_W_ne (by decide), ce_W_ne (by decide), i2], fun u c => by rw [ce_F, skN, ce_W_ne (by decide), ce_W_ne (by decide), ce_W_ne (by decide), i3], fun x hx => ?_⟩
      obtain ⟨j4, j5⟩ := i4 x hx
      by_cases qx : x = r
      · subst qx
        refine ⟨?_, ?_⟩
        · rw [ce_F, skN, ce_W_c (by decide), ce_W_at, i2, j4, dE, if_pos ⟨q, hw⟩]
        · rw [ce_F, skN, ce_W_at, i3, j5, pE, if_pos ⟨q, hw⟩]
      · have hn : ¬ (ce S 2 t 3 = 0 ∧ ce S 2 t 1 = nI x) := fun z => qx ((nI_eq (by omega) (by omega)).mp (z.2.symm.trans hw))
        refine ⟨?_, ?_⟩
        · rw [ce_F, skN, ce_W_r qx, ce_W_r qx, ce_W_r qx, j4, dE, if_neg hn]
        · rw [ce_F, skN, ce_W_r qx, ce_W_r qx, ce_W_r qx, j5, pE, if_neg hn]
    · rw [if_neg q, if_pos rfl]
      refine ⟨i1, i2, i3, fun x hx => ?_⟩
      obtain ⟨j4, j5⟩ := i4 x hx
      exact ⟨by rw [j4, dE, if_neg (fun z => q z.1)], by rw [j5, pE, if_neg (fun z => q z.1)]⟩
theorem dc_v {d : Int32} : ∀ (k r : Nat) (S : HA), r + k = sz S 0 → sz S 0 ≤ 8 → ∀ x, x < sz S 0 → ce (decayF d k r S) 0 x 5 = if x < r then ce S 0 x 5 else ce S 0 x 5 * d / 100
  | 0, r, S, hk, _, x, hx => by rw [decayF, if_pos (by omega)]
  | k + 1, r, S, hk, h8, x, hx => by
    rw [decayF, wc5 (by omega) (by decide) (by omega), cl5 (by omega), dc_v k (r + 1) _ (by rw [sz_W]; omega) (by rw [sz_W]; exact h8) x (by rw [sz_W]; exact hx)]
    by_cases q : x = r
    · subst q
      rw [if_pos (by omega), if_neg (by omega), ce_W_at]
    · rw [ce_W_r q]
      by_cases q2 : x < r
      · rw [if_pos (by omega), if_pos q2]
      · rw [if_neg (by omega), if_neg q2]
theorem gw_v : ∀ (k r : Nat) (S : HA), r + k = sz S 1 → sz S 1 ≤ 6 → ∀ x, x < sz S 1 → ce (growF k r S) 1 x 3 = if x < r then ce S 1 x 3 else (if ce S 1 x 3 + ce S 1 x 2 < 1000 then ce S 1 x 3 + ce S 1 x 2 else 1000)
  | 0, r, S, hk, _, x, hx => by rw [growF, if_pos (by omega)]
  | k + 1, r, S, hk, h8, x, hx => by
    rw [growF, wc3 (by omega) (by decide) (by omega), cl3 (by omega), cl2 (by omega), gw_v k (r + 1) _ (by rw [sz_W]; omega) (by rw [sz_W]; exact h8) x (by rw [sz_W]; exact hx)]
    by_cases q : x = r
    · subst q
      rw [if_pos (show x < x + 1 by omega), ce_W_at, if_neg (Nat.lt_irrefl x)]
    · rw [ce_W_r q, ce_W_r q]
      by_cases q2 : x < r
      · rw [if_pos (show x < r + 1 by omega), if_pos q2]
      · rw [if_neg (show ¬ x < r + 1 by omega), if_neg q2]
set_option maxHeartbeats 1000000 in
theorem end_facts {S : HA} {n w : Nat} (hV : V S n) (hw : S.2 5 = nI w) (hw9 : w < 999) :
    V (endS S) (n + 720) ∧ sz (endS S) 0 = sz S 0 ∧ sz (endS S) 1 = sz S 1 ∧ sz (endS S) 2 = 0 ∧ sz (endS S) 3 = 0 ∧ (endS S).2 5 = S.2 5 + 1 ∧ (endS S).2 6 = 0 ∧ (endS S).2 8 = S.2 8 + cntL S (sz S 2) ∧
    (∀ r, r < sz S 0 → ce (endS S) 0 r 3 = ce S 0 r 3) ∧ (∀ r, r < sz S 0 → ce (endS S) 0 r 4 = dE S r (sz S 2)) ∧ (∀ r, r < sz S 0 → ce (endS S) 0 r 5 = pE S r (sz S 2) * (100 - ce S 4 0 1) / 100) ∧ (∀ r, r < sz S 0 → loadS (endS S) (nI r) = ce S 0 r 3) ∧
    (∀ a, a < sz S 1 → ce (endS S) 1 a 3 = if ce S 1 a 3 + ce S 1 a 2 < 1000 then ce S 1 a 3 + ce S 1 a 2 else 1000) ∧ (∀ c, ce (endS S) 4 0 c = ce S 4 0 c) := by
  have hB := hV.1.2.1
  have hb := eb31 hB
  obtain ⟨b0, b1, b2, b3⟩ := id hB
  have hwho : ∀ t, t < sz S 2 → ce S 2 t 1 = nI ((fun t => (ce S 2 t 1).toNatClampNeg) t) ∧ (fun t => (ce S 2 t 1).toNatClampNeg) t < sz S 0 := fun t ht => by
    obtain ⟨r, hr, h⟩ := (hV.2.2.2.1 t ht).2.1
    show ce S 2 t 1 = nI (ce S 2 t 1).toNatClampNeg ∧ (ce S 2 t 1).toNatClampNeg < sz S 0
    rw [h, nI_clamp (by omega)]
    exact ⟨rfl, hr⟩
  obtain ⟨-, V1, -, -, e5, e6⟩ := end_ok (ed_fS hB) hV hw hw9 hwho
  have I0 : EI S (S.2 8) n 0 S (fS S) 0 := by
    refine ⟨?_, (Int32.add_zero _).symm, rfl, fun _ _ _ _ => rfl, fun _ => rfl, fun _ _ => rfl, hV.2.2.2.2.2.2, fun r hr => ?_⟩
    · have e : setF S 8 (S.2 8) = S := by
        refine Prod.ext rfl ?_
        funext i
        show (if i = 8 then S.2 8 else S.2 i) = S.2 i
        by_cases h : i = 8
        · rw [if_pos h, h]
        · rw [if_neg h]
      rw [e]; exact ed_fS hB
    · obtain ⟨-, -, ⟨kd, h4, h4'⟩, h6⟩ := hV.2.1 r hr
      exact ⟨rfl, rfl, ⟨kd, h4, h4'⟩, ⟨_, rfl, h6⟩⟩
  have I := ei_loop hV hwho (sz S 2) 0 S (fS S) 0 (by omega) I0
  have SKs := sk_loop hV (sz S 2) 0 S (by omega) ⟨fun _ => rfl, fun _ _ => rfl, fun _ _ => rfl, fun _ _ => ⟨rfl, rfl⟩⟩
  generalize hQ : skF (fun t => (ce S 2 t 1).toNatClampNeg) (sz S 2) 0 (fS S) 0 = Q at I
  obtain ⟨i1, i2, i3, i4, i5, i6, i7, i8⟩ := I
  rw [i3] at i2
  have e5' : (endS S).2 5 = S.2 5 + 1 := by rw [e5, hw, nI_1]
  refine ⟨V1, ?_⟩
  unfold endS endR at e5' e6 ⊢
  simp only at e5' e6 ⊢
  generalize hY : skipF (sz S 2) 0 S = Y at i2 i4 i5 i6 i7 i8 SKs e5' e6 ⊢
  generalize hZ : setT (setT Y 2 (0, fun _ _ => 0)) 3 (0, fun _ _ => 0) = Z at e5' e6 ⊢
  have zs : ∀ j, sz Z j = if j = 2 ∨ j = 3 then 0 else sz S j := fun j => by
    rw [← hZ]
    by_cases q3 : j = 3
    · subst q3; rw [sz_T, if_pos (Or.inr rfl)]
    · rw [sz_T_ne q3]
      by_cases q2 : j = 2
      · subst q2; rw [sz_T, if_pos (Or.inl rfl)]
      · rw [sz_T_ne q2, if_neg (by omega), i5]
  have zc : ∀ j r c, j ≠ 2 → j ≠ 3 → ce Z j r c = ce Y j r c := fun j r c h2 h3 => by rw [← hZ, ce_T_ne h3, ce_T_ne h2]
  have zV : VC Z := by
    intro j r c hj hr
    rw [← hZ]
    by_cases q3 : j = 3
    · subst q3; rw [ce_T]
    · rw [ce_T_ne q3]
      by_cases q2 : j = 2
      · subst q2; rw [ce_T]
      · rw [ce_T_ne q2]
        rw [zs, if_neg (by omega)] at hr
        exact i7 j r c hj (by rw [i5]; exact hr)
  have z2 : Z.2 = Y.2 := by rw [← hZ]; rfl
  have z0 : sz Z 0 = sz S 0 := (zs 0).trans (if_neg (by omega))
  have z1 : sz Z 1 = sz S 1 := (zs 1).trans (if_neg (by omega))
  have z4 : cl Z 4 0 1 = ce S 4 0 1 := by rw [show cl Z 4 0 1 = ce Z 4 0 1 from cl1 (r := 0) (by decide), zc 4 0 1 (by decide) (by decide), SKs.2.2.1]
  rw [z4, z0] at e5' e6 ⊢
  obtain ⟨d1, d2, d3, d4⟩ := dc_f (d := 100 - ce S 4 0 1) (sz S 0) 0 Z (by omega) (by rw [z0]; exact b0) zV
  have dv := dc_v (d := 100 - ce S 4 0 1) (sz S 0) 0 Z (by omega) (by rw [z0]; exact b0)
  generalize hD : decayF (100 - ce S 4 0 1) (sz S 0) 0 Z = D at d1 d2 d3 d4 dv e5' e6 ⊢
  rw [d1, z1] at e5' e6 ⊢
  obtain ⟨g1, g2, g3, g4⟩ := gw_f (sz S 1) 0 D (by rw [d1, z1]; omega) (by rw [d1, z1]; exact b1) d4
  have gv := gw_v (sz S 1) 0 D (by rw [d1, z1]; omega) (by rw [d1, z1]; exact b1)
  generalize hG : growF (sz S 1) 0 D = Gg at g1 g2 g3 g4 gv e5' e6 ⊢
  have gs : ∀ j, sz Gg j = if j = 2 ∨ j = 3 then 0 else sz S j := fun j => by rw [g1, d1, zs]
  have gc : ∀ j r c, ¬ (j = 1 ∧ c = 3) → ¬ (j = 0 ∧ c = 5) → j ≠ 2 → j ≠ 3 → ce Gg j r c = ce Y j r c := fun j r c h1 h2 h3 h4 => by rw [g2 j r c h1, d2 j r c h2, zc j r c h3 h4]
  have c6 : ∀ r, r < sz S 0 → ce Gg 0 r 6 = 0 := fun r hr => by
    rw [gc 0 r 6 (by decide) (by decide) (by decide) (by decide)]
    obtain ⟨-, -, -, m, hm, h⟩ := i8 r hr
    rw [h, show m = 0 by omega]
    rfl
  have c3 : ∀ r, r < sz S 0 → ce Gg 0 r 3 = ce S 0 r 3 := fun r hr => by
    rw [gc 0 r 3 (by decide) (by decide) (by decide) (by decide)]
    exact (i8 r hr).2.1
  refine ⟨(gs 0).trans (if_neg (by omega)), (gs 1).trans (if_neg (by omega)), (gs 2).trans (if_pos (Or.inl rfl)), (gs 3).trans (if_pos (Or.inr rfl)), e5', e6, ?_, c3, fun r hr => ?_, fun r hr => ?_, fun r hr => ?_, fun a ha => ?_, fun c => ?_⟩
  · show Gg.2 8 = _
    rw [g3, d3, z2, i2]
  · show ce Gg 0 r 4 = _
    rw [gc 0 r 4 (by decide) (by decide) (by decide) (by decide)]
    exact (SKs.2.2.2 r hr).1
  · show ce Gg 0 r 5 = _
    rw [g2 0 r 5 (by decide), dv r (by omega), if_neg (Nat.not_lt_zero r), zc 0 r 5 (by decide) (by decide), (SKs.2.2.2 r hr).2]
  · show loadS (setF (setF Gg 5 (Gg.2 5 + 1)) 6 0) (nI r) = _
    rw [loadS, cl3 (by omega), cl6 (by omega), ce_F, ce_F, ce_F, ce_F, c6 r hr, c3 r hr, Int32.add_zero]
  · show ce Gg 1 a 3 = _
    have hd : ∀ c, ce D 1 a c = ce S 1 a c := fun c => by rw [d2 1 a c (by omega), zc 1 a c (by decide) (by decide)]; exact i4 1 a c (by decide)
    rw [gv a (by rw [d1, z1]; exact ha), if_neg (Nat.not_lt_zero a), hd, hd]
  · show ce Gg 4 0 c = _
    rw [gc 4 0 c (by omega) (by omega) (by decide) (by decide), SKs.2.2.1]
set_option maxHeartbeats 4000000 in
theorem c_L_ends (l : Launch) {S : HA} {Hs : List HA} {P : PV} {k : Nat} (hJ : J k (S, (Hs, P))) (hk : k ≤ 900) (h6 : ¬ S.2 6 = 0)  : LCon l (RL_ 7 4 30 224) yL_ends cL_ends 9 [vR (7, 0, 0)] ((S, (Hs, P)) : XS) (fun v X' => v = 1 ∧ J (k + 1) X') := by
  refine lcon_of (by decide +kernel) rfl (Nat.le_of_ble_eq_true rfl) (fun B => ?_)
  show GL l (RL_ 7 4 30 224) cL_ends 9 _ (KM (fun v X' => v = 1 ∧ J (k + 1) X') 4 30) 0 [] B [some (vR (7, 0, 0)), none, none, none, none, none, none, none, none] [] ((S, (Hs, P)) : XS) 0 0
  generalize hK : KM (fun v X' => v = 1 ∧ J (k + 1) X') 4 30 = K
  have hV : V S (720 * k) := hJ.1
  have hB := hV.1.2.1
  obtain ⟨b0, b1, b2, b3⟩ := id hB
  obtain ⟨w, hwk, hw⟩ := hJ.2.2.1
  obtain ⟨V1, s0, s1, s2, s3, q5, q6, q8, f3, f4, f5, fl, fd, c4⟩ := end_facts hV hw (by omega)
  have hx := x_end1 (Hs := Hs) (P := P) hw (show w < 999 by omega) h6
  obtain ⟨S1, hS1⟩ : ∃ S1, endS S = S1 := ⟨_, rfl⟩
  rw [hS1] at V1 s0 s1 s2 s3 q5 q6 q8 f3 f4 f5 fl fd c4 hx
  have hB1 := V1.1.2.1
  refine l_blk (pc' := 2) (loc' := [some (vR (7, 0, 0)), none, none, none, none, none, none, none, none]) (st' := [vI (8 : Int32)]) (B' := B) [(0, .bipush 8)] (by decide +kernel) rfl rfl ?_
  refine l_new 2 (by rw [← hK]; exact KM_I) rfl rfl (by decide) rfl rfl ⟨Nat.le_of_ble_eq_true rfl, Nat.le_of_ble_eq_true rfl⟩ (by decide +kernel) ?_
  refine l_blk (pc' := 7) (loc' := [some (vR (7, 0, 0)), some (vR (9, 2, 0)), none, none, none, none, none, none, none]) (st' := [vI (8 : Int32)]) (B' := putB 2 (fun _ => 0) B) [(4, .astore_n 1), (5, .bipush 8)] (by decide +kernel) rfl rfl ?_
  refine l_new 3 (by rw [← hK]; exact KM_I) rfl rfl (by decide) rfl rfl ⟨Nat.le_of_ble_eq_true rfl, Nat.le_of_ble_eq_true rfl⟩ (by decide +kernel) ?_
  refine l_blk (pc' := 12) (loc' := [some (vR (7, 0, 0)), some (vR (9, 2, 0)), some (vR (9, 3, 0)), none, none, none, none, none, none]) (st' := [vI (6 : Int32)]) (B' := putB 3 (fun _ => 0) (putB 2 (fun _ => 0) B)) [(9, .astore_n 2), (10, .bipush 6)] (by decide +kernel) rfl rfl ?_
  refine l_new 4 (by rw [← hK]; exact KM_I) rfl rfl (by decide) rfl rfl ⟨Nat.le_of_ble_eq_true rfl, Nat.le_of_ble_eq_true rfl⟩ (by decide +kernel) ?_
  refine l_blk (pc' := 17) (loc' := [some (vR (7, 0, 0)), some (vR (9, 2, 0)), some (vR (9, 3, 0)), some (vR (9, 4, 0)), none, none, none, none, none]) (st' := [vI (8 : Int32)]) (B' := putB 4 (fun _ => 0) (putB 3 (fun _ => 0) (putB 2 (fun _ => 0) B))) [(14, .astore_n 3), (15, .bipush 8)] (by decide +kernel) rfl rfl ?_
  refine l_new 5 (by rw [← hK]; exact KM_I) rfl rfl (by decide) rfl rfl ⟨Nat.le_of_ble_eq_true rfl, Nat.le_of_ble_eq_true rfl⟩ (by decide +kernel) ?_
  refine l_blk (pc' := 23) (loc' := [some (vR (7, 0, 0)), some (vR (9, 2, 0)), some (vR (9, 3, 0)), some (vR (9, 4, 0)), some (vR (9, 5, 0)), none, none, none, none]) (st' := [vI (0 : Int32), vR (7, 0, 0)]) (B' := putB 5 (fun _ => 0) (putB 4 (fun _ => 0) (putB 3 (fun _ => 0) (putB 2 (fun _ => 0) B)))) [(19, .astore 4), (21, .aload_n 0), (22, .iconst 0)] (by decide +kernel) rfl rfl ?_
  refine l_callV (S.2 5) ((S, (Hs, P)) : XS) [vI (0 : Int32)] [] vl_RL_60 mi_X4_count (k_count l (r_count0)) rfl rfl rfl ⟨Nat.le_of_ble_eq_true rfl, Nat.le_of_ble_eq_true rfl⟩ rfl (Nat.le_of_ble_eq_true rfl) ⟨Nat.le_of_ble_eq_true rfl, Nat.le_of_ble_eq_true rfl⟩ (by decide +kernel) ?_
  refine l_blk (pc' := 30) (loc' := [some (vR (7, 0, 0)), some (vR (9, 2, 0)), some (vR (9, 3, 0)), some (vR (9, 4, 0)), some (vR (9, 5, 0)), some (vI (S.2 5)), none, none, none]) (st' := [vI (4 : Int32), vR (7, 0, 0)]) (B' := putB 5 (fun _ => 0) (putB 4 (fun _ => 0) (putB 3 (fun _ => 0) (putB 2 (fun _ => 0) B)))) [(26, .istore 5), (28, .aload_n 0), (29, .iconst 4)] (by decide +kernel) rfl rfl ?_
  refine l_callV (cntL S (sz S 2)) ((S, (Hs, P)) : XS) [vI (4 : Int32)] [] vl_RL_60 mi_X4_count (k_count l (r_count4)) rfl rfl rfl ⟨Nat.le_of_ble_eq_true rfl, Nat.le_of_ble_eq_true rfl⟩ rfl (Nat.le_of_ble_eq_true rfl) ⟨Nat.le_of_ble_eq_true rfl, Nat.le_of_ble_eq_true rfl⟩ (by decide +kernel) ?_
  refine l_blk (pc' := 38) (loc' := [some (vR (7, 0, 0)), some (vR (9, 2, 0)), some (vR (9, 3, 0)), some (vR (9, 4, 0)), some (vR (9, 5, 0)), some (vI (S.2 5)), some (vI (cntL S (sz S 2))), none, none]) (st' := [vI (6 : Int32), vR (7, 0, 0)]) (B' := putB 5 (fun _ => 0) (putB 4 (fun _ => 0) (putB 3 (fun _ => 0) (putB 2 (fun _ => 0) B)))) [(33, .istore 6), (35, .aload_n 0), (36, .bipush 6)] (by decide +kernel) rfl rfl ?_
  refine l_callV (S.2 8) ((S, (Hs, P)) : XS) [vI (6 : Int32)] [] vl_RL_60 mi_X4_count (k_count l (r_count6)) rfl rfl rfl ⟨Nat.le_of_ble_eq_true rfl, Nat.le_of_ble_eq_true rfl⟩ rfl (Nat.le_of_ble_eq_true rfl) ⟨Nat.le_of_ble_eq_true rfl, Nat.le_of_ble_eq_true rfl⟩ (by decide +kernel) ?_
  refine l_blk (pc' := 46) (loc' := [some (vR (7, 0, 0)), some (vR (9, 2, 0)), some (vR (9, 3, 0)), some (vR (9, 4, 0)), some (vR (9, 5, 0)), some (vI (S.2 5)), some (vI (cntL S (sz S 2))), some (vI (S.2 8)), some (vI (0 : Int32))]) (st' := []) (B' := putB 5 (fun _ => 0) (putB 4 (fun _ => 0) (putB 3 (fun _ => 0) (putB 2 (fun _ => 0) B)))) [(41, .istore 7), (43, .iconst 0), (44, .istore 8)] (by decide +kernel) rfl rfl ?_
  have lp46 : ∀ (k46 i46 : Nat), i46 ≤ sz S 0 → sz S 0 < i46 + k46 → GL l (RL_ 7 4 30 224) cL_ends 9 (some .boolean) K 46 [2, 3, 4, 5] (putB 5 (fillF (fun r => ce S 0 r 3) i46) (putB 4 (fun _ => 0) (putB 3 (fillF (fun r => ce S 0 r 5) i46) (putB 2 (fillF (fun r => ce S 0 r 4) i46) B)))) [some (vR (7, 0, 0)), some (vR (9, 2, 0)), some (vR (9, 3, 0)), some (vR (9, 4, 0)), some (vR (9, 5, 0)), some (vI (S.2 5)), some (vI (cntL S (sz S 2))), some (vI (S.2 8)), some (vI (nI i46))] [] ((S, (Hs, P)) : XS) 4 30 := by
    intro k46
    induction k46 with
    | zero =>
      intro i46 hi46 hk46
      exact absurd hk46 (by omega)
    | succ k46 ih46 =>
      intro i46 hi46 hk46
      refine l_blk (pc' := 50) (loc' := [some (vR (7, 0, 0)), some (vR (9, 2, 0)), some (vR (9, 3, 0)), some (vR (9, 4, 0)), some (vR (9, 5, 0)), some (vI (S.2 5)), some (vI (cntL S (sz S 2))), some (vI (S.2 8)), some (vI (nI i46))]) (st' := [vI (1 : Int32), vR (7, 0, 0), vI (nI i46)]) (B' := putB 5 (fillF (fun r => ce S 0 r 3) i46) (putB 4 (fun _ => 0) (putB 3 (fillF (fun r => ce S 0 r 5) i46) (putB 2 (fillF (fun r => ce S 0 r 4) i46) B)))) [(46, .iload 8), (48, .aload_n 0), (49, .iconst 1)] (by decide +kernel) rfl rfl ?_
      refine l_callV (nI (sz S 0)) ((S, (Hs, P)) : XS) [vI (1 : Int32)] [vI (nI i46)] vl_RL_60 mi_X4_count (k_count l (r_count1)) rfl rfl rfl ⟨Nat.le_of_ble_eq_true rfl, Nat.le_of_ble_eq_true rfl⟩ rfl (Nat.le_of_ble_eq_true rfl) ⟨Nat.le_of_ble_eq_true rfl, Nat.le_of_ble_eq_true rfl⟩ (by decide +kernel) ?_
      refine l_icmp_ge (off := 43) (tgt := 96) (by decide +kernel) (by decide) (fun zc53 => ?_) (fun zc53 => ?_)
      · rw [nI_leI (by omega) (by omega)] at zc53
        obtain rfl : i46 = sz S 0 := by omega
        refine l_blk (pc' := 99) (loc' := [some (vR (7, 0, 0)), some (vR (9, 2, 0)), some (vR (9, 3, 0)), some (vR (9, 4, 0)), some (vR (9, 5, 0)), some (vI (S.2 5)), some (vI (cntL S (sz S 2))), some (vI (S.2 8)), some (vI (0 : Int32))]) (st' := []) (B' := putB 5 (fillF (fun r => ce S 0 r 3) (sz S 0)) (putB 4 (fun _ => 0) (putB 3 (fillF (fun r => ce S 0 r 5) (sz S 0)) (putB 2 (fillF (fun r => ce S 0 r 4) (sz S 0)) B)))) [(96, .iconst 0), (97, .istore 8)] (by decide +kernel) rfl rfl ?_
        have lp99 : ∀ (k99 i99 : Nat), i99 ≤ sz S 2 → sz S 2 < i99 + k99 → GL l (RL_ 7 4 30 224) cL_ends 9 (some .boolean) K 99 [2, 3, 4, 5] (putB 5 (fillF (fun r => ce S 0 r 3) (sz S 0)) (putB 4 (fun _ => 0) (putB 3 (fillF (fun r => pE S r i99) (sz S 0)) (putB 2 (fillF (fun r => dE S r i99) (sz S 0)) B)))) [some (vR (7, 0, 0)), some (vR (9, 2, 0)), some (vR (9, 3, 0)), some (vR (9, 4, 0)), some (vR (9, 5, 0)), some (vI (S.2 5)), some (vI (cntL S (sz S 2))), some (vI (S.2 8)), some (vI (nI i99))] [] ((S, (Hs, P)) : XS) 4 30 := by
          intro k99
          induction k99 with
          | zero =>
            intro i99 hi99 hk99
            exact absurd hk99 (by omega)
          | succ k99 ih99 =>
            intro i99 hi99 hk99
            refine l_blk (pc' := 103) (loc' := [some (vR (7, 0, 0)), some (vR (9, 2, 0)), some (vR (9, 3, 0)), some (vR (9, 4, 0)), some (vR (9, 5, 0)), some (vI (S.2 5)), some (vI (cntL S (sz S 2))), some (vI (S.2 8)), some (vI (nI i99))]) (st' := [vI (3 : Int32), vR (7, 0, 0), vI (nI i99)]) (B' := putB 5 (fillF (fun r => ce S 0 r 3) (sz S 0)) (putB 4 (fun _ => 0) (putB 3 (fillF (fun r => pE S r i99) (sz S 0)) (putB 2 (fillF (fun r => dE S r i99) (sz S 0)) B)))) [(99, .iload 8), (101, .aload_n 0), (102, .iconst 3)] (by decide +kernel) rfl rfl ?_
            refine l_callV (nI (sz S 2)) ((S, (Hs, P)) : XS) [vI (3 : Int32)] [vI (nI i99)] vl_RL_60 mi_X4_count (k_count l (r_count3)) rfl rfl rfl ⟨Nat.le_of_ble_eq_true rfl, Nat.le_of_ble_eq_true rfl⟩ rfl (Nat.le_of_ble_eq_true rfl) ⟨Nat.le_of_ble_eq_true rfl, Nat.le_of_ble_eq_true rfl⟩ (by decide +kernel) ?_
            refine l_icmp_ge (off := 56) (tgt := 162) (by decide +kernel) (by decide) (fun zc106 => ?_) (fun zc106 => ?_)
            · rw [nI_leI (by omega) (by omega)] at zc106
              obtain rfl : i99 = sz S 2 := by omega
              refine l_blk (pc' := 165) (loc' := [some (vR (7, 0, 0)), some (vR (9, 2, 0)), some (vR (9, 3, 0)), some (vR (9, 4, 0)), some (vR (9, 5, 0)), some (vI (S.2 5)), some (vI (cntL S (sz S 2))), some (vI (S.2 8)), some (vI (0 : Int32))]) (st' := []) (B' := putB 5 (fillF (fun r => ce S 0 r 3) (sz S 0)) (putB 4 (fun _ => 0) (putB 3 (fillF (fun r => pE S r (sz S 2)) (sz S 0)) (putB 2 (fillF (fun r => dE S r (sz S 2)) (sz S 0)) B)))) [(162, .iconst 0), (163, .istore 8)] (by decide +kernel) rfl rfl ?_
              have lp165 : ∀ (k165 i165 : Nat), i165 ≤ sz S 1 → sz S 1 < i165 + k165 → GL l (RL_ 7 4 30 224) cL_ends 9 (some .boolean) K 165 [2, 3, 4, 5] (putB 5 (fillF (fun r => ce S 0 r 3) (sz S 0)) (putB 4 (fillF (fun a => (ce S 1 a 3) + (ce S 1 a 2)) i165) (putB 3 (fillF (fun r => pE S r (sz S 2)) (sz S 0)) (putB 2 (fillF (fun r => dE S r (sz S 2)) (sz S 0)) B)))) [some (vR (7, 0, 0)), some (vR (9, 2, 0)), some (vR (9, 3, 0)), some (vR (9, 4, 0)), some (vR (9, 5, 0)), some (vI (S.2 5)), some (vI (cntL S (sz S 2))), some (vI (S.2 8)), some (vI (nI i165))] [] ((S, (Hs, P)) : XS) 4 30 := by
                intro k165
                induction k165 with
                | zero =>
                  intro i165 hi165 hk165
                  exact absurd hk165 (by omega)
                | succ k165 ih165 =>
                  intro i165 hi165 hk165
                  refine l_blk (pc' := 169) (loc' := [some (vR (7, 0, 0)), some (vR (9, 2, 0)), some (vR (9, 3, 0)), some (vR (9, 4, 0)), some (vR (9, 5, 0)), some (vI (S.2 5)), some (vI (cntL S (sz S 2))), some (vI (S.2 8)), some (vI (nI i165))]) (st' := [vI (2 : Int32), vR (7, 0, 0), vI (nI i165)]) (B' := putB 5 (fillF (fun r => ce S 0 r 3) (sz S 0)) (putB 4 (fillF (fun a => (ce S 1 a 3) + (ce S 1 a 2)) i165) (putB 3 (fillF (fun r => pE S r (sz S 2)) (sz S 0)) (putB 2 (fillF (fun r => dE S r (sz S 2)) (sz S 0)) B)))) [(165, .iload 8), (167, .aload_n 0), (168, .iconst 2)] (by decide +kernel) rfl rfl ?_
                  refine l_callV (nI (sz S 1)) ((S, (Hs, P)) : XS) [vI (2 : Int32)] [vI (nI i165)] vl_RL_60 mi_X4_count (k_count l (r_count2)) rfl rfl rfl ⟨Nat.le_of_ble_eq_true rfl, Nat.le_of_ble_eq_true rfl⟩ rfl (Nat.le_of_ble_eq_true rfl) ⟨Nat.le_of_ble_eq_true rfl, Nat.le_of_ble_eq_true rfl⟩ (by decide +kernel) ?_
                  refine l_icmp_ge (off := 28) (tgt := 200) (by decide +kernel) (by decide) (fun zc172 => ?_) (fun zc172 => ?_)
                  · rw [nI_leI (by omega) (by omega)] at zc172
                    obtain rfl : i165 = sz S 1 := by omega
                    refine l_blk (pc' := 201) (loc' := [some (vR (7, 0, 0)), some (vR (9, 2, 0)), some (vR (9, 3, 0)), some (vR (9, 4, 0)), some (vR (9, 5, 0)), some (vI (S.2 5)), some (vI (cntL S (sz S 2))), some (vI (S.2 8)), some (vI (nI (sz S 1)))]) (st' := [vR (7, 0, 0)]) (B' := putB 5 (fillF (fun r => ce S 0 r 3) (sz S 0)) (putB 4 (fillF (fun a => (ce S 1 a 3) + (ce S 1 a 2)) (sz S 1)) (putB 3 (fillF (fun r => pE S r (sz S 2)) (sz S 0)) (putB 2 (fillF (fun r => dE S r (sz S 2)) (sz S 0)) B)))) [(200, .aload_n 0)] (by decide +kernel) rfl rfl ?_
                    refine l_callV (cntL S (sz S 2)) ((S1, (keepL Hs S, P)) : XS) [] [] vl_RL_72 mi_X4_end (k_end l (hx)) rfl rfl rfl ⟨Nat.le_of_ble_eq_true rfl, Nat.le_of_ble_eq_true rfl⟩ rfl (Nat.le_of_ble_eq_true rfl) ⟨Nat.le_of_ble_eq_true rfl, Nat.le_of_ble_eq_true rfl⟩ (by decide +kernel) ?_
                    refine l_blk (pc' := 206) (loc' := [some (vR (7, 0, 0)), some (vR (9, 2, 0)), some (vR (9, 3, 0)), some (vR (9, 4, 0)), some (vR (9, 5, 0)), some (vI (S.2 5)), some (vI (cntL S (sz S 2))), some (vI (S.2 8)), some (vI (nI (sz S 1)))]) (st' := [vI (cntL S (sz S 2)), vI (cntL S (sz S 2))]) (B' := putB 5 (fillF (fun r => ce S 0 r 3) (sz S 0)) (putB 4 (fillF (fun a => (ce S 1 a 3) + (ce S 1 a 2)) (sz S 1)) (putB 3 (fillF (fun r => pE S r (sz S 2)) (sz S 0)) (putB 2 (fillF (fun r => dE S r (sz S 2)) (sz S 0)) B)))) [(204, .iload 6)] (by decide +kernel) rfl rfl ?_
                    refine l_icmp_ne (off := 55) (tgt := 261) (by decide +kernel) (by decide) (fun zc206 => ?_) (fun zc206 => ?_)
                    · exact absurd rfl zc206
                    · refine l_blk (pc' := 211) (loc' := [some (vR (7, 0, 0)), some (vR (9, 2, 0)), some (vR (9, 3, 0)), some (vR (9, 4, 0)), some (vR (9, 5, 0)), some (vI (S.2 5)), some (vI (cntL S (sz S 2))), some (vI (S.2 8)), some (vI (nI (sz S 1)))]) (st' := [vI (0 : Int32), vR (7, 0, 0)]) (B' := putB 5 (fillF (fun r => ce S 0 r 3) (sz S 0)) (putB 4 (fillF (fun a => (ce S 1 a 3) + (ce S 1 a 2)) (sz S 1)) (putB 3 (fillF (fun r => pE S r (sz S 2)) (sz S 0)) (putB 2 (fillF (fun r => dE S r (sz S 2)) (sz S 0)) B)))) [(209, .aload_n 0), (210, .iconst 0)] (by decide +kernel) rfl rfl ?_
                      refine l_callV ((S.2 5) + (1 : Int32)) ((S1, (keepL Hs S, P)) : XS) [vI (0 : Int32)] [] vl_RL_60 mi_X4_count (k_count l ((r_count0).trans (q5))) rfl rfl rfl ⟨Nat.le_of_ble_eq_true rfl, Nat.le_of_ble_eq_true rfl⟩ rfl (Nat.le_of_ble_eq_true rfl) ⟨Nat.le_of_ble_eq_true rfl, Nat.le_of_ble_eq_true rfl⟩ (by decide +kernel) ?_
                      refine l_blk (pc' := 218) (loc' := [some (vR (7, 0, 0)), some (vR (9, 2, 0)), some (vR (9, 3, 0)), some (vR (9, 4, 0)), some (vR (9, 5, 0)), some (vI (S.2 5)), some (vI (cntL S (sz S 2))), some (vI (S.2 8)), some (vI (nI (sz S 1)))]) (st' := [vI ((S.2 5) + (1 : Int32)), vI ((S.2 5) + (1 : Int32))]) (B' := putB 5 (fillF (fun r => ce S 0 r 3) (sz S 0)) (putB 4 (fillF (fun a => (ce S 1 a 3) + (ce S 1 a 2)) (sz S 1)) (putB 3 (fillF (fun r => pE S r (sz S 2)) (sz S 0)) (putB 2 (fillF (fun r => dE S r (sz S 2)) (sz S 0)) B)))) [(214, .iload 5), (216, .iconst 1), (217, .iadd)] (by decide +kernel) rfl rfl ?_
                      refine l_icmp_ne (off := 43) (tgt := 261) (by decide +kernel) (by decide) (fun zc218 => ?_) (fun zc218 => ?_)
                      · exact absurd rfl zc218
                      · refine l_blk (pc' := 224) (loc' := [some (vR (7, 0, 0)), some (vR (9, 2, 0)), some (vR (9, 3, 0)), some (vR (9, 4, 0)), some (vR (9, 5, 0)), some (vI (S.2 5)), some (vI (cntL S (sz S 2))), some (vI (S.2 8)), some (vI (nI (sz S 1)))]) (st' := [vI (8 : Int32), vR (7, 0, 0)]) (B' := putB 5 (fillF (fun r => ce S 0 r 3) (sz S 0)) (putB 4 (fillF (fun a => (ce S 1 a 3) + (ce S 1 a 2)) (sz S 1)) (putB 3 (fillF (fun r => pE S r (sz S 2)) (sz S 0)) (putB 2 (fillF (fun r => dE S r (sz S 2)) (sz S 0)) B)))) [(221, .aload_n 0), (222, .bipush 8)] (by decide +kernel) rfl rfl ?_
                        refine l_callV (0 : Int32) ((S1, (keepL Hs S, P)) : XS) [vI (8 : Int32)] [] vl_RL_60 mi_X4_count (k_count l ((r_count8).trans (by rw [q6]; rfl))) rfl rfl rfl ⟨Nat.le_of_ble_eq_true rfl, Nat.le_of_ble_eq_true rfl⟩ rfl (Nat.le_of_ble_eq_true rfl) ⟨Nat.le_of_ble_eq_true rfl, Nat.le_of_ble_eq_true rfl⟩ (by decide +kernel) ?_
                        refine l_if_ne (off := 34) (tgt := 261) (by decide +kernel) (by decide) (fun zc227 => ?_) (fun zc227 => ?_)
                        · exact absurd zc227 (by decide)
                        · refine l_blk (pc' := 232) (loc' := [some (vR (7, 0, 0)), some (vR (9, 2, 0)), some (vR (9, 3, 0)), some (vR (9, 4, 0)), some (vR (9, 5, 0)), some (vI (S.2 5)), some (vI (cntL S (sz S 2))), some (vI (S.2 8)), some (vI (nI (sz S 1)))]) (st' := [vI (3 : Int32), vR (7, 0, 0)]) (B' := putB 5 (fillF (fun r => ce S 0 r 3) (sz S 0)) (putB 4 (fillF (fun a => (ce S 1 a 3) + (ce S 1 a 2)) (sz S 1)) (putB 3 (fillF (fun r => pE S r (sz S 2)) (sz S 0)) (putB 2 (fillF (fun r => dE S r (sz S 2)) (sz S 0)) B)))) [(230, .aload_n 0), (231, .iconst 3)] (by decide +kernel) rfl rfl ?_
                          refine l_callV (0 : Int32) ((S1, (keepL Hs S, P)) : XS) [vI (3 : Int32)] [] vl_RL_60 mi_X4_count (k_count l ((r_count3).trans (by rw [s2]; rfl))) rfl rfl rfl ⟨Nat.le_of_ble_eq_true rfl, Nat.le_of_ble_eq_true rfl⟩ rfl (Nat.le_of_ble_eq_true rfl) ⟨Nat.le_of_ble_eq_true rfl, Nat.le_of_ble_eq_true rfl⟩ (by decide +kernel) ?_
                          refine l_if_ne (off := 26) (tgt := 261) (by decide +kernel) (by decide) (fun zc235 => ?_) (fun zc235 => ?_)
                          · exact absurd zc235 (by decide)
                          · refine l_blk (pc' := 241) (loc' := [some (vR (7, 0, 0)), some (vR (9, 2, 0)), some (vR (9, 3, 0)), some (vR (9, 4, 0)), some (vR (9, 5, 0)), some (vI (S.2 5)), some (vI (cntL S (sz S 2))), some (vI (S.2 8)), some (vI (nI (sz S 1)))]) (st' := [vI (7 : Int32), vR (7, 0, 0)]) (B' := putB 5 (fillF (fun r => ce S 0 r 3) (sz S 0)) (putB 4 (fillF (fun a => (ce S 1 a 3) + (ce S 1 a 2)) (sz S 1)) (putB 3 (fillF (fun r => pE S r (sz S 2)) (sz S 0)) (putB 2 (fillF (fun r => dE S r (sz S 2)) (sz S 0)) B)))) [(238, .aload_n 0), (239, .bipush 7)] (by decide +kernel) rfl rfl ?_
                            refine l_callV (0 : Int32) ((S1, (keepL Hs S, P)) : XS) [vI (7 : Int32)] [] vl_RL_60 mi_X4_count (k_count l ((r_count7).trans (by rw [s3]; rfl))) rfl rfl rfl ⟨Nat.le_of_ble_eq_true rfl, Nat.le_of_ble_eq_true rfl⟩ rfl (Nat.le_of_ble_eq_true rfl) ⟨Nat.le_of_ble_eq_true rfl, Nat.le_of_ble_eq_true rfl⟩ (by decide +kernel) ?_
                            refine l_if_ne (off := 17) (tgt := 261) (by decide +kernel) (by decide) (fun zc244 => ?_) (fun zc244 => ?_)
                            · exact absurd zc244 (by decide)
                            · refine l_blk (pc' := 250) (loc' := [some (vR (7, 0, 0)), some (vR (9, 2, 0)), some (vR (9, 3, 0)), some (vR (9, 4, 0)), some (vR (9, 5, 0)), some (vI (S.2 5)), some (vI (cntL S (sz S 2))), some (vI (S.2 8)), some (vI (nI (sz S 1)))]) (st' := [vI (6 : Int32), vR (7, 0, 0)]) (B' := putB 5 (fillF (fun r => ce S 0 r 3) (sz S 0)) (putB 4 (fillF (fun a => (ce S 1 a 3) + (ce S 1 a 2)) (sz S 1)) (putB 3 (fillF (fun r => pE S r (sz S 2)) (sz S 0)) (putB 2 (fillF (fun r => dE S r (sz S 2)) (sz S 0)) B)))) [(247, .aload_n 0), (248, .bipush 6)] (by decide +kernel) rfl rfl ?_
                              refine l_callV ((S.2 8) + (cntL S (sz S 2))) ((S1, (keepL Hs S, P)) : XS) [vI (6 : Int32)] [] vl_RL_60 mi_X4_count (k_count l ((r_count6).trans (q8))) rfl rfl rfl ⟨Nat.le_of_ble_eq_true rfl, Nat.le_of_ble_eq_true rfl⟩ rfl (Nat.le_of_ble_eq_true rfl) ⟨Nat.le_of_ble_eq_true rfl, Nat.le_of_ble_eq_true rfl⟩ (by decide +kernel) ?_
                              refine l_blk (pc' := 258) (loc' := [some (vR (7, 0, 0)), some (vR (9, 2, 0)), some (vR (9, 3, 0)), some (vR (9, 4, 0)), some (vR (9, 5, 0)), some (vI (S.2 5)), some (vI (cntL S (sz S 2))), some (vI (S.2 8)), some (vI (nI (sz S 1)))]) (st' := [vI ((S.2 8) + (cntL S (sz S 2))), vI ((S.2 8) + (cntL S (sz S 2)))]) (B' := putB 5 (fillF (fun r => ce S 0 r 3) (sz S 0)) (putB 4 (fillF (fun a => (ce S 1 a 3) + (ce S 1 a 2)) (sz S 1)) (putB 3 (fillF (fun r => pE S r (sz S 2)) (sz S 0)) (putB 2 (fillF (fun r => dE S r (sz S 2)) (sz S 0)) B)))) [(253, .iload 7), (255, .iload 6), (257, .iadd)] (by decide +kernel) rfl rfl ?_
                              refine l_icmp_eq (off := 5) (tgt := 263) (by decide +kernel) (by decide) (fun zc258 => ?_) (fun zc258 => ?_)
                              · refine l_blk (pc' := 266) (loc' := [some (vR (7, 0, 0)), some (vR (9, 2, 0)), some (vR (9, 3, 0)), some (vR (9, 4, 0)), some (vR (9, 5, 0)), some (vI (S.2 5)), some (vI (cntL S (sz S 2))), some (vI (S.2 8)), some (vI (0 : Int32))]) (st' := []) (B' := putB 5 (fillF (fun r => ce S 0 r 3) (sz S 0)) (putB 4 (fillF (fun a => (ce S 1 a 3) + (ce S 1 a 2)) (sz S 1)) (putB 3 (fillF (fun r => pE S r (sz S 2)) (sz S 0)) (putB 2 (fillF (fun r => dE S r (sz S 2)) (sz S 0)) B)))) [(263, .iconst 0), (264, .istore 8)] (by decide +kernel) rfl rfl ?_
                                have lp266 : ∀ (k266 i266 : Nat), i266 ≤ sz S 0 → sz S 0 < i266 + k266 → GL l (RL_ 7 4 30 224) cL_ends 9 (some .boolean) K 266 [2, 3, 4, 5] (putB 5 (fillF (fun r => ce S 0 r 3) (sz S 0)) (putB 4 (fillF (fun a => (ce S 1 a 3) + (ce S 1 a 2)) (sz S 1)) (putB 3 (fillF (fun r => pE S r (sz S 2)) (sz S 0)) (putB 2 (fillF (fun r => dE S r (sz S 2)) (sz S 0)) B)))) [some (vR (7, 0, 0)), some (vR (9, 2, 0)), some (vR (9, 3, 0)), some (vR (9, 4, 0)), some (vR (9, 5, 0)), some (vI (S.2 5)), some (vI (cntL S (sz S 2))), some (vI (S.2 8)), some (vI (nI i266))] [] ((S1, (keepL Hs S, P)) : XS) 4 30 := by
                                  intro k266
                                  induction k266 with
                                  | zero =>
                                    intro i266 hi266 hk266
                                    exact absurd hk266 (by omega)
                                  | succ k266 ih266 =>
                                    intro i266 hi266 hk266
                                    refine l_blk (pc' := 270) (loc' := [some (vR (7, 0, 0)), some (vR (9, 2, 0)), some (vR (9, 3, 0)), some (vR (9, 4, 0)), some (vR (9, 5, 0)), some (vI (S.2 5)), some (vI (cntL S (sz S 2))), some (vI (S.2 8)), some (vI (nI i266))]) (st' := [vI (1 : Int32), vR (7, 0, 0), vI (nI i266)]) (B' := putB 5 (fillF (fun r => ce S 0 r 3) (sz S 0)) (putB 4 (fillF (fun a => (ce S 1 a 3) + (ce S 1 a 2)) (sz S 1)) (putB 3 (fillF (fun r => pE S r (sz S 2)) (sz S 0)) (putB 2 (fillF (fun r => dE S r (sz S 2)) (sz S 0)) B)))) [(266, .iload 8), (268, .aload_n 0), (269, .iconst 1)] (by decide +kernel) rfl rfl ?_
                                    refine l_callV (nI (sz S 0)) ((S1, (keepL Hs S, P)) : XS) [vI (1 : Int32)] [vI (nI i266)] vl_RL_60 mi_X4_count (k_count l ((r_count1).trans (by rw [s0]))) rfl rfl rfl ⟨Nat.le_of_ble_eq_true rfl, Nat.le_of_ble_eq_true rfl⟩ rfl (Nat.le_of_ble_eq_true rfl) ⟨Nat.le_of_ble_eq_true rfl, Nat.le_of_ble_eq_true rfl⟩ (by decide +kernel) ?_
                                    refine l_icmp_ge (off := 82) (tgt := 355) (by decide +kernel) (by decide) (fun zc273 => ?_) (fun zc273 => ?_)
                                    · rw [nI_leI (by omega) (by omega)] at zc273
                                      obtain rfl : i266 = sz S 0 := by omega
                                      refine l_blk (pc' := 358) (loc' := [some (vR (7, 0, 0)), some (vR (9, 2, 0)), some (vR (9, 3, 0)), some (vR (9, 4, 0)), some (vR (9, 5, 0)), some (vI (S.2 5)), some (vI (cntL S (sz S 2))), some (vI (S.2 8)), some (vI (0 : Int32))]) (st' := []) (B' := putB 5 (fillF (fun r => ce S 0 r 3) (sz S 0)) (putB 4 (fillF (fun a => (ce S 1 a 3) + (ce S 1 a 2)) (sz S 1)) (putB 3 (fillF (fun r => pE S r (sz S 2)) (sz S 0)) (putB 2 (fillF (fun r => dE S r (sz S 2)) (sz S 0)) B)))) [(355, .iconst 0), (356, .istore 8)] (by decide +kernel) rfl rfl ?_
                                      have lp358 : ∀ (k358 i358 : Nat), i358 ≤ sz S 1 → sz S 1 < i358 + k358 → GL l (RL_ 7 4 30 224) cL_ends 9 (some .boolean) K 358 [2, 3, 4, 5] (putB 5 (fillF (fun r => ce S 0 r 3) (sz S 0)) (putB 4 (fillF (fun a => (ce S 1 a 3) + (ce S 1 a 2)) (sz S 1)) (putB 3 (fillF (fun r => pE S r (sz S 2)) (sz S 0)) (putB 2 (fillF (fun r => dE S r (sz S 2)) (sz S 0)) B)))) [some (vR (7, 0, 0)), some (vR (9, 2, 0)), some (vR (9, 3, 0)), some (vR (9, 4, 0)), some (vR (9, 5, 0)), some (vI (S.2 5)), some (vI (cntL S (sz S 2))), some (vI (S.2 8)), some (vI (nI i358))] [] ((S1, (keepL Hs S, P)) : XS) 4 30 := by
                                        intro k358
                                        induction k358 with
                                        | zero =>
                                          intro i358 hi358 hk358
                                          exact absurd hk358 (by omega)
                                        | succ k358 ih358 =>
                                          intro i358 hi358 hk358
                                          refine l_blk (pc' := 362) (loc' := [some (vR (7, 0, 0)), some (vR (9, 2, 0)), some (vR (9, 3, 0)), some (vR (9, 4, 0)), some (vR (9, 5, 0)), some (vI (S.2 5)), some (vI (cntL S (sz S 2))), some (vI (S.2 8)), some (vI (nI i358))]) (st' := [vI (2 : Int32), vR (7, 0, 0), vI (nI i358)]) (B' := putB 5 (fillF (fun r => ce S 0 r 3) (sz S 0)) (putB 4 (fillF (fun a => (ce S 1 a 3) + (ce S 1 a 2)) (sz S 1)) (putB 3 (fillF (fun r => pE S r (sz S 2)) (sz S 0)) (putB 2 (fillF (fun r => dE S r (sz S 2)) (sz S 0)) B)))) [(358, .iload 8), (360, .aload_n 0), (361, .iconst 2)] (by decide +kernel) rfl rfl ?_
                                          refine l_callV (nI (sz S 1)) ((S1, (keepL Hs S, P)) : XS) [vI (2 : Int32)] [vI (nI i358)] vl_RL_60 mi_X4_count (k_count l ((r_count2).trans (by rw [s1]))) rfl rfl rfl ⟨Nat.le_of_ble_eq_true rfl, Nat.le_of_ble_eq_true rfl⟩ rfl (Nat.le_of_ble_eq_true rfl) ⟨Nat.le_of_ble_eq_true rfl, Nat.le_of_ble_eq_true rfl⟩ (by decide +kernel) ?_
                                          refine l_icmp_ge (off := 41) (tgt := 406) (by decide +kernel) (by decide) (fun zc365 => ?_) (fun zc365 => ?_)
                                          · rw [nI_leI (by omega) (by omega)] at zc365
                                            obtain rfl : i358 = sz S 1 := by omega
                                            refine l_blk (pc' := 407) (loc' := [some (vR (7, 0, 0)), some (vR (9, 2, 0)), some (vR (9, 3, 0)), some (vR (9, 4, 0)), some (vR (9, 5, 0)), some (vI (S.2 5)), some (vI (cntL S (sz S 2))), some (vI (S.2 8)), some (vI (nI (sz S 1)))]) (st' := [vI (1 : Int32)]) (B' := putB 5 (fillF (fun r => ce S 0 r 3) (sz S 0)) (putB 4 (fillF (fun a => (ce S 1 a 3) + (ce S 1 a 2)) (sz S 1)) (putB 3 (fillF (fun r => pE S r (sz S 2)) (sz S 0)) (putB 2 (fillF (fun r => dE S r (sz S 2)) (sz S 0)) B)))) [(406, .iconst 1)] (by decide +kernel) rfl rfl ?_
                                            subst hK
                                            exact l_zret ⟨Nat.le_of_ble_eq_true rfl, Nat.le_of_ble_eq_true rfl⟩ (Or.inr rfl) (⟨rfl, ⟨V1.le (by omega), ⟨by show 1 ≤ sz S1 0; rw [s0]; exact hJ.2.1.1, by show 1 ≤ sz S1 1; rw [s1]; exact hJ.2.1.2⟩, ⟨w + 1, by omega, by show S1.2 5 = _; rw [q5, hw]; exact nI_1 w⟩, keep6' hJ.2.2.2⟩⟩) (by decide +kernel)
                                          · rw [nI_leI (by omega) (by omega)] at zc365
                                            refine l_blk (pc' := 372) (loc' := [some (vR (7, 0, 0)), some (vR (9, 2, 0)), some (vR (9, 3, 0)), some (vR (9, 4, 0)), some (vR (9, 5, 0)), some (vI (S.2 5)), some (vI (cntL S (sz S 2))), some (vI (S.2 8)), some (vI (nI i358))]) (st' := [vI (3 : Int32), vI (nI i358), vR (7, 0, 0)]) (B' := putB 5 (fillF (fun r => ce S 0 r 3) (sz S 0)) (putB 4 (fillF (fun a => (ce S 1 a 3) + (ce S 1 a 2)) (sz S 1)) (putB 3 (fillF (fun r => pE S r (sz S 2)) (sz S 0)) (putB 2 (fillF (fun r => dE S r (sz S 2)) (sz S 0)) B)))) [(368, .aload_n 0), (369, .iload 8), (371, .iconst 3)] (by decide +kernel) rfl rfl ?_
                                            refine l_callV (ce S1 1 i358 3) ((S1, (keepL Hs S, P)) : XS) [vI (nI i358), vI (3 : Int32)] [] vl_RL_104 mi_X4_room (k_room l (r_room3 hB1 (show i358 < sz S1 1 by omega))) rfl rfl rfl ⟨Nat.le_of_ble_eq_true rfl, Nat.le_of_ble_eq_true rfl⟩ rfl (Nat.le_of_ble_eq_true rfl) ⟨Nat.le_of_ble_eq_true rfl, Nat.le_of_ble_eq_true rfl⟩ (by decide +kernel) ?_
                                            refine l_blk (pc' := 378) (loc' := [some (vR (7, 0, 0)), some (vR (9, 2, 0)), some (vR (9, 3, 0)), some (vR (9, 4, 0)), some (vR (9, 5, 0)), some (vI (S.2 5)), some (vI (cntL S (sz S 2))), some (vI (S.2 8)), some (vI (nI i358))]) (st' := [vI (nI i358), vR (9, 4, 0), vI (ce S1 1 i358 3)]) (B' := putB 5 (fillF (fun r => ce S 0 r 3) (sz S 0)) (putB 4 (fillF (fun a => (ce S 1 a 3) + (ce S 1 a 2)) (sz S 1)) (putB 3 (fillF (fun r => pE S r (sz S 2)) (sz S 0)) (putB 2 (fillF (fun r => dE S r (sz S 2)) (sz S 0)) B)))) [(375, .aload_n 3), (376, .iload 8)] (by decide +kernel) rfl rfl ?_
                                            refine l_ald 4 (i := i358) (v := (ce S 1 i358 3) + (ce S 1 i358 2)) (by decide) (show i358 < 6 by omega) (fill_at (f := (fun a => (ce S 1 a 3) + (ce S 1 a 2))) (by omega)) (by decide +kernel) ?_
                                            refine l_blk (pc' := 382) (loc' := [some (vR (7, 0, 0)), some (vR (9, 2, 0)), some (vR (9, 3, 0)), some (vR (9, 4, 0)), some (vR (9, 5, 0)), some (vI (S.2 5)), some (vI (cntL S (sz S 2))), some (vI (S.2 8)), some (vI (nI i358))]) (st' := [vI (1000 : Int32), vI ((ce S 1 i358 3) + (ce S 1 i358 2)), vI (ce S1 1 i358 3)]) (B' := putB 5 (fillF (fun r => ce S 0 r 3) (sz S 0)) (putB 4 (fillF (fun a => (ce S 1 a 3) + (ce S 1 a 2)) (sz S 1)) (putB 3 (fillF (fun r => pE S r (sz S 2)) (sz S 0)) (putB 2 (fillF (fun r => dE S r (sz S 2)) (sz S 0)) B)))) [(379, .sipush 1000)] (by decide +kernel) rfl rfl ?_
                                            refine l_icmp_le (off := 9) (tgt := 391) (by decide +kernel) (by decide) (fun zc382 => ?_) (fun zc382 => ?_)
                                            · refine l_blk (pc' := 394) (loc' := [some (vR (7, 0, 0)), some (vR (9, 2, 0)), some (vR (9, 3, 0)), some (vR (9, 4, 0)), some (vR (9, 5, 0)), some (vI (S.2 5)), some (vI (cntL S (sz S 2))), some (vI (S.2 8)), some (vI (nI i358))]) (st' := [vI (nI i358), vR (9, 4, 0), vI (ce S1 1 i358 3)]) (B' := putB 5 (fillF (fun r => ce S 0 r 3) (sz S 0)) (putB 4 (fillF (fun a => (ce S 1 a 3) + (ce S 1 a 2)) (sz S 1)) (putB 3 (fillF (fun r => pE S r (sz S 2)) (sz S 0)) (putB 2 (fillF (fun r => dE S r (sz S 2)) (sz S 0)) B)))) [(391, .aload_n 3), (392, .iload 8)] (by decide +kernel) rfl rfl ?_
                                              refine l_ald 4 (i := i358) (v := (ce S 1 i358 3) + (ce S 1 i358 2)) (by decide) (show i358 < 6 by omega) (fill_at (f := (fun a => (ce S 1 a 3) + (ce S 1 a 2))) (by omega)) (by decide +kernel) ?_
                                              refine l_icmp_eq (off := 5) (tgt := 400) (by decide +kernel) (by decide) (fun zc395 => ?_) (fun zc395 => ?_)
                                              · refine l_blk (pc' := 358) (loc' := [some (vR (7, 0, 0)), some (vR (9, 2, 0)), some (vR (9, 3, 0)), some (vR (9, 4, 0)), some (vR (9, 5, 0)), some (vI (S.2 5)), some (vI (cntL S (sz S 2))), some (vI (S.2 8)), some (vI ((nI i358) + (1 : Int32)))]) (st' := []) (B' := putB 5 (fillF (fun r => ce S 0 r 3) (sz S 0)) (putB 4 (fillF (fun a => (ce S 1 a 3) + (ce S 1 a 2)) (sz S 1)) (putB 3 (fillF (fun r => pE S r (sz S 2)) (sz S 0)) (putB 2 (fillF (fun r => dE S r (sz S 2)) (sz S 0)) B)))) [(400, .iinc 8 1), (403, .goto (-45))] (by decide +kernel) rfl rfl ?_
                                                exact l_sub (loc' := [some (vR (7, 0, 0)), some (vR (9, 2, 0)), some (vR (9, 3, 0)), some (vR (9, 4, 0)), some (vR (9, 5, 0)), some (vI (S.2 5)), some (vI (cntL S (sz S 2))), some (vI (S.2 8)), some (vI (nI (i358 + 1)))]) ⟨Or.inr rfl, ⟨Or.inr rfl, ⟨Or.inr rfl, ⟨Or.inr rfl, ⟨Or.inr rfl, ⟨Or.inr rfl, ⟨Or.inr rfl, ⟨Or.inr rfl, ⟨Or.inr (congrArg (fun z => some (vI z)) (nI_1 _).symm), trivial⟩⟩⟩⟩⟩⟩⟩⟩⟩ (ih358 (i358 + 1) (by omega) (by omega))
                                              · exact absurd ((fd i358 (by omega)).trans ((min1000 _).symm.trans (if_pos zc382))) zc395
                                            · refine l_blk (pc' := 395) (loc' := [some (vR (7, 0, 0)), some (vR (9, 2, 0)), some (vR (9, 3, 0)), some (vR (9, 4, 0)), some (vR (9, 5, 0)), some (vI (S.2 5)), some (vI (cntL S (sz S 2))), some (vI (S.2 8)), some (vI (nI i358))]) (st' := [vI (1000 : Int32), vI (ce S1 1 i358 3)]) (B' := putB 5 (fillF (fun r => ce S 0 r 3) (sz S 0)) (putB 4 (fillF (fun a => (ce S 1 a 3) + (ce S 1 a 2)) (sz S 1)) (putB 3 (fillF (fun r => pE S r (sz S 2)) (sz S 0)) (putB 2 (fillF (fun r => dE S r (sz S 2)) (sz S 0)) B)))) [(385, .sipush 1000), (388, .goto 7)] (by decide +kernel) rfl rfl ?_
                                              refine l_icmp_eq (off := 5) (tgt := 400) (by decide +kernel) (by decide) (fun zc395 => ?_) (fun zc395 => ?_)
                                              · refine l_blk (pc' := 358) (loc' := [some (vR (7, 0, 0)), some (vR (9, 2, 0)), some (vR (9, 3, 0)), some (vR (9, 4, 0)), some (vR (9, 5, 0)), some (vI (S.2 5)), some (vI (cntL S (sz S 2))), some (vI (S.2 8)), some (vI ((nI i358) + (1 : Int32)))]) (st' := []) (B' := putB 5 (fillF (fun r => ce S 0 r 3) (sz S 0)) (putB 4 (fillF (fun a => (ce S 1 a 3) + (ce S 1 a 2)) (sz S 1)) (putB 3 (fillF (fun r => pE S r (sz S 2)) (sz S 0)) (putB 2 (fillF (fun r => dE S r (sz S 2)) (sz S 0)) B)))) [(400, .iinc 8 1), (403, .goto (-45))] (by decide +kernel) rfl rfl ?_
                                                exact l_sub (loc' := [some (vR (7, 0, 0)), some (vR (9, 2, 0)), some (vR (9, 3, 0)), some (vR (9, 4, 0)), some (vR (9, 5, 0)), some (vI (S.2 5)), some (vI (cntL S (sz S 2))), some (vI (S.2 8)), some (vI (nI (i358 + 1)))]) ⟨Or.inr rfl, ⟨Or.inr rfl, ⟨Or.inr rfl, ⟨Or.inr rfl, ⟨Or.inr rfl, ⟨Or.inr rfl, ⟨Or.inr rfl, ⟨Or.inr rfl, ⟨Or.inr (congrArg (fun z => some (vI z)) (nI_1 _).symm), trivial⟩⟩⟩⟩⟩⟩⟩⟩⟩ (ih358 (i358 + 1) (by omega) (by omega))
                                              · exact absurd ((fd i358 (by omega)).trans ((min1000 _).symm.trans (if_neg zc382))) zc395
                                      exact l_sub (loc' := [some (vR (7, 0, 0)), some (vR (9, 2, 0)), some (vR (9, 3, 0)), some (vR (9, 4, 0)), some (vR (9, 5, 0)), some (vI (S.2 5)), some (vI (cntL S (sz S 2))), some (vI (S.2 8)), some (vI (nI 0))]) ⟨Or.inr rfl, ⟨Or.inr rfl, ⟨Or.inr rfl, ⟨Or.inr rfl, ⟨Or.inr rfl, ⟨Or.inr rfl, ⟨Or.inr rfl, ⟨Or.inr rfl, ⟨Or.inr rfl, trivial⟩⟩⟩⟩⟩⟩⟩⟩⟩ (lp358 (sz S 1 + 1) 0 (by omega) (by omega))
                                    · rw [nI_leI (by omega) (by omega)] at zc273
                                      refine l_blk (pc' := 280) (loc' := [some (vR (7, 0, 0)), some (vR (9, 2, 0)), some (vR (9, 3, 0)), some (vR (9, 4, 0)), some (vR (9, 5, 0)), some (vI (S.2 5)), some (vI (cntL S (sz S 2))), some (vI (S.2 8)), some (vI (nI i266))]) (st' := [vI (1 : Int32), vI (nI i266), vR (7, 0, 0)]) (B' := putB 5 (fillF (fun r => ce S 0 r 3) (sz S 0)) (putB 4 (fillF (fun a => (ce S 1 a 3) + (ce S 1 a 2)) (sz S 1)) (putB 3 (fillF (fun r => pE S r (sz S 2)) (sz S 0)) (putB 2 (fillF (fun r => dE S r (sz S 2)) (sz S 0)) B)))) [(276, .aload_n 0), (277, .iload 8), (279, .iconst 1)] (by decide +kernel) rfl rfl ?_
                                      refine l_callV (ce S 0 i266 3) ((S1, (keepL Hs S, P)) : XS) [vI (nI i266), vI (1 : Int32)] [] vl_RL_98 mi_X4_about (k_about l ((r_about1 hB1 (show i266 < sz S1 0 by omega)).trans (f3 i266 (by omega)))) rfl rfl rfl ⟨Nat.le_of_ble_eq_true rfl, Nat.le_of_ble_eq_true rfl⟩ rfl (Nat.le_of_ble_eq_true rfl) ⟨Nat.le_of_ble_eq_true rfl, Nat.le_of_ble_eq_true rfl⟩ (by decide +kernel) ?_
                                      refine l_blk (pc' := 287) (loc' := [some (vR (7, 0, 0)), some (vR (9, 2, 0)), some (vR (9, 3, 0)), some (vR (9, 4, 0)), some (vR (9, 5, 0)), some (vI (S.2 5)), some (vI (cntL S (sz S 2))), some (vI (S.2 8)), some (vI (nI i266))]) (st' := [vI (nI i266), vR (9, 5, 0), vI (ce S 0 i266 3)]) (B' := putB 5 (fillF (fun r => ce S 0 r 3) (sz S 0)) (putB 4 (fillF (fun a => (ce S 1 a 3) + (ce S 1 a 2)) (sz S 1)) (putB 3 (fillF (fun r => pE S r (sz S 2)) (sz S 0)) (putB 2 (fillF (fun r => dE S r (sz S 2)) (sz S 0)) B)))) [(283, .aload 4), (285, .iload 8)] (by decide +kernel) rfl rfl ?_
                                      refine l_ald 5 (i := i266) (v := ce S 0 i266 3) (by decide) (show i266 < 8 by omega) (fill_at (f := (fun r => ce S 0 r 3)) (by omega)) (by decide +kernel) ?_
                                      refine l_icmp_ne (off := 59) (tgt := 347) (by decide +kernel) (by decide) (fun zc288 => ?_) (fun zc288 => ?_)
                                      · exact absurd rfl zc288
                                      · refine l_blk (pc' := 295) (loc' := [some (vR (7, 0, 0)), some (vR (9, 2, 0)), some (vR (9, 3, 0)), some (vR (9, 4, 0)), some (vR (9, 5, 0)), some (vI (S.2 5)), some (vI (cntL S (sz S 2))), some (vI (S.2 8)), some (vI (nI i266))]) (st' := [vI (2 : Int32), vI (nI i266), vR (7, 0, 0)]) (B' := putB 5 (fillF (fun r => ce S 0 r 3) (sz S 0)) (putB 4 (fillF (fun a => (ce S 1 a 3) + (ce S 1 a 2)) (sz S 1)) (putB 3 (fillF (fun r => pE S r (sz S 2)) (sz S 0)) (putB 2 (fillF (fun r => dE S r (sz S 2)) (sz S 0)) B)))) [(291, .aload_n 0), (292, .iload 8), (294, .iconst 2)] (by decide +kernel) rfl rfl ?_
                                        refine l_callV (dE S i266 (sz S 2)) ((S1, (keepL Hs S, P)) : XS) [vI (nI i266), vI (2 : Int32)] [] vl_RL_98 mi_X4_about (k_about l ((r_about2 hB1 (show i266 < sz S1 0 by omega)).trans (f4 i266 (by omega)))) rfl rfl rfl ⟨Nat.le_of_ble_eq_true rfl, Nat.le_of_ble_eq_true rfl⟩ rfl (Nat.le_of_ble_eq_true rfl) ⟨Nat.le_of_ble_eq_true rfl, Nat.le_of_ble_eq_true rfl⟩ (by decide +kernel) ?_
                                        refine l_blk (pc' := 301) (loc' := [some (vR (7, 0, 0)), some (vR (9, 2, 0)), some (vR (9, 3, 0)), some (vR (9, 4, 0)), some (vR (9, 5, 0)), some (vI (S.2 5)), some (vI (cntL S (sz S 2))), some (vI (S.2 8)), some (vI (nI i266))]) (st' := [vI (nI i266), vR (9, 2, 0), vI (dE S i266 (sz S 2))]) (B' := putB 5 (fillF (fun r => ce S 0 r 3) (sz S 0)) (putB 4 (fillF (fun a => (ce S 1 a 3) + (ce S 1 a 2)) (sz S 1)) (putB 3 (fillF (fun r => pE S r (sz S 2)) (sz S 0)) (putB 2 (fillF (fun r => dE S r (sz S 2)) (sz S 0)) B)))) [(298, .aload_n 1), (299, .iload 8)] (by decide +kernel) rfl rfl ?_
                                        refine l_ald 2 (i := i266) (v := dE S i266 (sz S 2)) (by decide) (show i266 < 8 by omega) (fill_at (f := fun r => dE S r (sz S 2)) (by omega)) (by decide +kernel) ?_
                                        refine l_icmp_ne (off := 45) (tgt := 347) (by decide +kernel) (by decide) (fun zc302 => ?_) (fun zc302 => ?_)
                                        · exact absurd rfl zc302
                                        · refine l_blk (pc' := 309) (loc' := [some (vR (7, 0, 0)), some (vR (9, 2, 0)), some (vR (9, 3, 0)), some (vR (9, 4, 0)), some (vR (9, 5, 0)), some (vI (S.2 5)), some (vI (cntL S (sz S 2))), some (vI (S.2 8)), some (vI (nI i266))]) (st' := [vI (3 : Int32), vI (nI i266), vR (7, 0, 0)]) (B' := putB 5 (fillF (fun r => ce S 0 r 3) (sz S 0)) (putB 4 (fillF (fun a => (ce S 1 a 3) + (ce S 1 a 2)) (sz S 1)) (putB 3 (fillF (fun r => pE S r (sz S 2)) (sz S 0)) (putB 2 (fillF (fun r => dE S r (sz S 2)) (sz S 0)) B)))) [(305, .aload_n 0), (306, .iload 8), (308, .iconst 3)] (by decide +kernel) rfl rfl ?_
                                          refine l_callV (((pE S i266 (sz S 2)) * ((100 : Int32) - (ce S 4 0 1))) / (100 : Int32)) ((S1, (keepL Hs S, P)) : XS) [vI (nI i266), vI (3 : Int32)] [] vl_RL_98 mi_X4_about (k_about l ((r_about3 hB1 (show i266 < sz S1 0 by omega)).trans (f5 i266 (by omega)))) rfl rfl rfl ⟨Nat.le_of_ble_eq_true rfl, Nat.le_of_ble_eq_true rfl⟩ rfl (Nat.le_of_ble_eq_true rfl) ⟨Nat.le_of_ble_eq_true rfl, Nat.le_of_ble_eq_true rfl⟩ (by decide +kernel) ?_
                                          refine l_blk (pc' := 315) (loc' := [some (vR (7, 0, 0)), some (vR (9, 2, 0)), some (vR (9, 3, 0)), some (vR (9, 4, 0)), some (vR (9, 5, 0)), some (vI (S.2 5)), some (vI (cntL S (sz S 2))), some (vI (S.2 8)), some (vI (nI i266))]) (st' := [vI (nI i266), vR (9, 3, 0), vI (((pE S i266 (sz S 2)) * ((100 : Int32) - (ce S 4 0 1))) / (100 : Int32))]) (B' := putB 5 (fillF (fun r => ce S 0 r 3) (sz S 0)) (putB 4 (fillF (fun a => (ce S 1 a 3) + (ce S 1 a 2)) (sz S 1)) (putB 3 (fillF (fun r => pE S r (sz S 2)) (sz S 0)) (putB 2 (fillF (fun r => dE S r (sz S 2)) (sz S 0)) B)))) [(312, .aload_n 2), (313, .iload 8)] (by decide +kernel) rfl rfl ?_
                                          refine l_ald 3 (i := i266) (v := pE S i266 (sz S 2)) (by decide) (show i266 < 8 by omega) (fill_at (f := fun r => pE S r (sz S 2)) (by omega)) (by decide +kernel) ?_
                                          refine l_blk (pc' := 321) (loc' := [some (vR (7, 0, 0)), some (vR (9, 2, 0)), some (vR (9, 3, 0)), some (vR (9, 4, 0)), some (vR (9, 5, 0)), some (vI (S.2 5)), some (vI (cntL S (sz S 2))), some (vI (S.2 8)), some (vI (nI i266))]) (st' := [vI (14 : Int32), vR (7, 0, 0), vI (100 : Int32), vI (pE S i266 (sz S 2)), vI (((pE S i266 (sz S 2)) * ((100 : Int32) - (ce S 4 0 1))) / (100 : Int32))]) (B' := putB 5 (fillF (fun r => ce S 0 r 3) (sz S 0)) (putB 4 (fillF (fun a => (ce S 1 a 3) + (ce S 1 a 2)) (sz S 1)) (putB 3 (fillF (fun r => pE S r (sz S 2)) (sz S 0)) (putB 2 (fillF (fun r => dE S r (sz S 2)) (sz S 0)) B)))) [(316, .bipush 100), (318, .aload_n 0), (319, .bipush 14)] (by decide +kernel) rfl rfl ?_
                                          refine l_callV (ce S 4 0 1) ((S1, (keepL Hs S, P)) : XS) [vI (14 : Int32)] [vI (100 : Int32), vI (pE S i266 (sz S 2)), vI (((pE S i266 (sz S 2)) * ((100 : Int32) - (ce S 4 0 1))) / (100 : Int32))] vl_RL_60 mi_X4_count (k_count l ((r_count14).trans (c4 1))) rfl rfl rfl ⟨Nat.le_of_ble_eq_true rfl, Nat.le_of_ble_eq_true rfl⟩ rfl (Nat.le_of_ble_eq_true rfl) ⟨Nat.le_of_ble_eq_true rfl, Nat.le_of_ble_eq_true rfl⟩ (by decide +kernel) ?_
                                          refine l_blk (pc' := 328) (loc' := [some (vR (7, 0, 0)), some (vR (9, 2, 0)), some (vR (9, 3, 0)), some (vR (9, 4, 0)), some (vR (9, 5, 0)), some (vI (S.2 5)), some (vI (cntL S (sz S 2))), some (vI (S.2 8)), some (vI (nI i266))]) (st' := [vI (100 : Int32), vI ((pE S i266 (sz S 2)) * ((100 : Int32) - (ce S 4 0 1))), vI (((pE S i266 (sz S 2)) * ((100 : Int32) - (ce S 4 0 1))) / (100 : Int32))]) (B' := putB 5 (fillF (fun r => ce S 0 r 3) (sz S 0)) (putB 4 (fillF (fun a => (ce S 1 a 3) + (ce S 1 a 2)) (sz S 1)) (putB 3 (fillF (fun r => pE S r (sz S 2)) (sz S 0)) (putB 2 (fillF (fun r => dE S r (sz S 2)) (sz S 0)) B)))) [(324, .isub), (325, .imul), (326, .bipush 100)] (by decide +kernel) rfl rfl ?_
                                          refine l_idiv (by decide +kernel) (by decide) ?_
                                          refine l_icmp_ne (off := 18) (tgt := 347) (by decide +kernel) (by decide) (fun zc329 => ?_) (fun zc329 => ?_)
                                          · exact absurd rfl zc329
                                          · refine l_blk (pc' := 336) (loc' := [some (vR (7, 0, 0)), some (vR (9, 2, 0)), some (vR (9, 3, 0)), some (vR (9, 4, 0)), some (vR (9, 5, 0)), some (vI (S.2 5)), some (vI (cntL S (sz S 2))), some (vI (S.2 8)), some (vI (nI i266))]) (st' := [vI (4 : Int32), vI (nI i266), vR (7, 0, 0)]) (B' := putB 5 (fillF (fun r => ce S 0 r 3) (sz S 0)) (putB 4 (fillF (fun a => (ce S 1 a 3) + (ce S 1 a 2)) (sz S 1)) (putB 3 (fillF (fun r => pE S r (sz S 2)) (sz S 0)) (putB 2 (fillF (fun r => dE S r (sz S 2)) (sz S 0)) B)))) [(332, .aload_n 0), (333, .iload 8), (335, .iconst 4)] (by decide +kernel) rfl rfl ?_
                                            refine l_callV (ce S 0 i266 3) ((S1, (keepL Hs S, P)) : XS) [vI (nI i266), vI (4 : Int32)] [] vl_RL_98 mi_X4_about (k_about l ((r_about4 hB1 (show i266 < sz S1 0 by omega)).trans (fl i266 (by omega)))) rfl rfl rfl ⟨Nat.le_of_ble_eq_true rfl, Nat.le_of_ble_eq_true rfl⟩ rfl (Nat.le_of_ble_eq_true rfl) ⟨Nat.le_of_ble_eq_true rfl, Nat.le_of_ble_eq_true rfl⟩ (by decide +kernel) ?_
                                            refine l_blk (pc' := 343) (loc' := [some (vR (7, 0, 0)), some (vR (9, 2, 0)), some (vR (9, 3, 0)), some (vR (9, 4, 0)), some (vR (9, 5, 0)), some (vI (S.2 5)), some (vI (cntL S (sz S 2))), some (vI (S.2 8)), some (vI (nI i266))]) (st' := [vI (nI i266), vR (9, 5, 0), vI (ce S 0 i266 3)]) (B' := putB 5 (fillF (fun r => ce S 0 r 3) (sz S 0)) (putB 4 (fillF (fun a => (ce S 1 a 3) + (ce S 1 a 2)) (sz S 1)) (putB 3 (fillF (fun r => pE S r (sz S 2)) (sz S 0)) (putB 2 (fillF (fun r => dE S r (sz S 2)) (sz S 0)) B)))) [(339, .aload 4), (341, .iload 8)] (by decide +kernel) rfl rfl ?_
                                            refine l_ald 5 (i := i266) (v := ce S 0 i266 3) (by decide) (show i266 < 8 by omega) (fill_at (f := (fun r => ce S 0 r 3)) (by omega)) (by decide +kernel) ?_
                                            refine l_icmp_eq (off := 5) (tgt := 349) (by decide +kernel) (by decide) (fun zc344 => ?_) (fun zc344 => ?_)
                                            · refine l_blk (pc' := 266) (loc' := [some (vR (7, 0, 0)), some (vR (9, 2, 0)), some (vR (9, 3, 0)), some (vR (9, 4, 0)), some (vR (9, 5, 0)), some (vI (S.2 5)), some (vI (cntL S (sz S 2))), some (vI (S.2 8)), some (vI ((nI i266) + (1 : Int32)))]) (st' := []) (B' := putB 5 (fillF (fun r => ce S 0 r 3) (sz S 0)) (putB 4 (fillF (fun a => (ce S 1 a 3) + (ce S 1 a 2)) (sz S 1)) (putB 3 (fillF (fun r => pE S r (sz S 2)) (sz S 0)) (putB 2 (fillF (fun r => dE S r (sz S 2)) (sz S 0)) B)))) [(349, .iinc 8 1), (352, .goto (-86))] (by decide +kernel) rfl rfl ?_
                                              exact l_sub (loc' := [some (vR (7, 0, 0)), some (vR (9, 2, 0)), some (vR (9, 3, 0)), some (vR (9, 4, 0)), some (vR (9, 5, 0)), some (vI (S.2 5)), some (vI (cntL S (sz S 2))), some (vI (S.2 8)), some (vI (nI (i266 + 1)))]) ⟨Or.inr rfl, ⟨Or.inr rfl, ⟨Or.inr rfl, ⟨Or.inr rfl, ⟨Or.inr rfl, ⟨Or.inr rfl, ⟨Or.inr rfl, ⟨Or.inr rfl, ⟨Or.inr (congrArg (fun z => some (vI z)) (nI_1 _).symm), trivial⟩⟩⟩⟩⟩⟩⟩⟩⟩ (ih266 (i266 + 1) (by omega) (by omega))
                                            · exact absurd rfl zc344
                                exact l_sub (loc' := [some (vR (7, 0, 0)), some (vR (9, 2, 0)), some (vR (9, 3, 0)), some (vR (9, 4, 0)), some (vR (9, 5, 0)), some (vI (S.2 5)), some (vI (cntL S (sz S 2))), some (vI (S.2 8)), some (vI (nI 0))]) ⟨Or.inr rfl, ⟨Or.inr rfl, ⟨Or.inr rfl, ⟨Or.inr rfl, ⟨Or.inr rfl, ⟨Or.inr rfl, ⟨Or.inr rfl, ⟨Or.inr rfl, ⟨Or.inr rfl, trivial⟩⟩⟩⟩⟩⟩⟩⟩⟩ (lp266 (sz S 0 + 1) 0 (by omega) (by omega))
                              · exact absurd rfl zc258
                  · rw [nI_leI (by omega) (by omega)] at zc172
                    refine l_blk (pc' := 182) (loc' := [some (vR (7, 0, 0)), some (vR (9, 2, 0)), some (vR (9, 3, 0)), some (vR (9, 4, 0)), some (vR (9, 5, 0)), some (vI (S.2 5)), some (vI (cntL S (sz S 2))), some (vI (S.2 8)), some (vI (nI i165))]) (st' := [vI (3 : Int32), vI (nI i165), vR (7, 0, 0), vI (nI i165), vR (9, 4, 0)]) (B' := putB 5 (fillF (fun r => ce S 0 r 3) (sz S 0)) (putB 4 (fillF (fun a => (ce S 1 a 3) + (ce S 1 a 2)) i165) (putB 3 (fillF (fun r => pE S r (sz S 2)) (sz S 0)) (putB 2 (fillF (fun r => dE S r (sz S 2)) (sz S 0)) B)))) [(175, .aload_n 3), (176, .iload 8), (178, .aload_n 0), (179, .iload 8), (181, .iconst 3)] (by decide +kernel) rfl rfl ?_
                    refine l_callV (ce S 1 i165 3) ((S, (Hs, P)) : XS) [vI (nI i165), vI (3 : Int32)] [vI (nI i165), vR (9, 4, 0)] vl_RL_104 mi_X4_room (k_room l (r_room3 hB (show i165 < sz S 1 by omega))) rfl rfl rfl ⟨Nat.le_of_ble_eq_true rfl, Nat.le_of_ble_eq_true rfl⟩ rfl (Nat.le_of_ble_eq_true rfl) ⟨Nat.le_of_ble_eq_true rfl, Nat.le_of_ble_eq_true rfl⟩ (by decide +kernel) ?_
                    refine l_blk (pc' := 189) (loc' := [some (vR (7, 0, 0)), some (vR (9, 2, 0)), some (vR (9, 3, 0)), some (vR (9, 4, 0)), some (vR (9, 5, 0)), some (vI (S.2 5)), some (vI (cntL S (sz S 2))), some (vI (S.2 8)), some (vI (nI i165))]) (st' := [vI (2 : Int32), vI (nI i165), vR (7, 0, 0), vI (ce S 1 i165 3), vI (nI i165), vR (9, 4, 0)]) (B' := putB 5 (fillF (fun r => ce S 0 r 3) (sz S 0)) (putB 4 (fillF (fun a => (ce S 1 a 3) + (ce S 1 a 2)) i165) (putB 3 (fillF (fun r => pE S r (sz S 2)) (sz S 0)) (putB 2 (fillF (fun r => dE S r (sz S 2)) (sz S 0)) B)))) [(185, .aload_n 0), (186, .iload 8), (188, .iconst 2)] (by decide +kernel) rfl rfl ?_
                    refine l_callV (ce S 1 i165 2) ((S, (Hs, P)) : XS) [vI (nI i165), vI (2 : Int32)] [vI (ce S 1 i165 3), vI (nI i165), vR (9, 4, 0)] vl_RL_104 mi_X4_room (k_room l (r_room2 hB (show i165 < sz S 1 by omega))) rfl rfl rfl ⟨Nat.le_of_ble_eq_true rfl, Nat.le_of_ble_eq_true rfl⟩ rfl (Nat.le_of_ble_eq_true rfl) ⟨Nat.le_of_ble_eq_true rfl, Nat.le_of_ble_eq_true rfl⟩ (by decide +kernel) ?_
                    refine l_blk (pc' := 193) (loc' := [some (vR (7, 0, 0)), some (vR (9, 2, 0)), some (vR (9, 3, 0)), some (vR (9, 4, 0)), some (vR (9, 5, 0)), some (vI (S.2 5)), some (vI (cntL S (sz S 2))), some (vI (S.2 8)), some (vI (nI i165))]) (st' := [vI ((ce S 1 i165 3) + (ce S 1 i165 2)), vI (nI i165), vR (9, 4, 0)]) (B' := putB 5 (fillF (fun r => ce S 0 r 3) (sz S 0)) (putB 4 (fillF (fun a => (ce S 1 a 3) + (ce S 1 a 2)) i165) (putB 3 (fillF (fun r => pE S r (sz S 2)) (sz S 0)) (putB 2 (fillF (fun r => dE S r (sz S 2)) (sz S 0)) B)))) [(192, .iadd)] (by decide +kernel) rfl rfl ?_
                    refine l_ast 4 (i := i165) (B' := putB 5 (fillF (fun r => ce S 0 r 3) (sz S 0)) (putB 4 (upd (fillF (fun a => (ce S 1 a 3) + (ce S 1 a 2)) i165) i165 ((ce S 1 i165 3) + (ce S 1 i165 2))) (putB 3 (fillF (fun r => pE S r (sz S 2)) (sz S 0)) (putB 2 (fillF (fun r => dE S r (sz S 2)) (sz S 0)) B)))) (by decide) (show i165 < 6 by omega) (updB_tl (by decide) updB_hd) (by decide +kernel) ?_
                    refine l_blk (pc' := 165) (loc' := [some (vR (7, 0, 0)), some (vR (9, 2, 0)), some (vR (9, 3, 0)), some (vR (9, 4, 0)), some (vR (9, 5, 0)), some (vI (S.2 5)), some (vI (cntL S (sz S 2))), some (vI (S.2 8)), some (vI ((nI i165) + (1 : Int32)))]) (st' := []) (B' := putB 5 (fillF (fun r => ce S 0 r 3) (sz S 0)) (putB 4 (upd (fillF (fun a => (ce S 1 a 3) + (ce S 1 a 2)) i165) i165 ((ce S 1 i165 3) + (ce S 1 i165 2))) (putB 3 (fillF (fun r => pE S r (sz S 2)) (sz S 0)) (putB 2 (fillF (fun r => dE S r (sz S 2)) (sz S 0)) B)))) [(194, .iinc 8 1), (197, .goto (-32))] (by decide +kernel) rfl rfl ?_
                    refine l_eq (B' := putB 5 (fillF (fun r => ce S 0 r 3) (sz S 0)) (putB 4 (fillF (fun a => (ce S 1 a 3) + (ce S 1 a 2)) (i165 + 1)) (putB 3 (fillF (fun r => pE S r (sz S 2)) (sz S 0)) (putB 2 (fillF (fun r => dE S r (sz S 2)) (sz S 0)) B)))) rfl rfl rfl (putB_c (rfl) (putB_c (fill_s (f := (fun a => (ce S 1 a 3) + (ce S 1 a 2)))) (putB_c (rfl) (putB_c (rfl) (rfl))))) rfl ?_
                    exact l_sub (loc' := [some (vR (7, 0, 0)), some (vR (9, 2, 0)), some (vR (9, 3, 0)), some (vR (9, 4, 0)), some (vR (9, 5, 0)), some (vI (S.2 5)), some (vI (cntL S (sz S 2))), some (vI (S.2 8)), some (vI (nI (i165 + 1)))]) ⟨Or.inr rfl, ⟨Or.inr rfl, ⟨Or.inr rfl, ⟨Or.inr rfl, ⟨Or.inr rfl, ⟨Or.inr rfl, ⟨Or.inr rfl, ⟨Or.inr rfl, ⟨Or.inr (congrArg (fun z => some (vI z)) (nI_1 _).symm), trivial⟩⟩⟩⟩⟩⟩⟩⟩⟩ (ih165 (i165 + 1) (by omega) (by omega))
              refine l_eq (B' := putB 5 (fillF (fun r => ce S 0 r 3) (sz S 0)) (putB 4 (fillF (fun a => (ce S 1 a 3) + (ce S 1 a 2)) 0) (putB 3 (fillF (fun r => pE S r (sz S 2)) (sz S 0)) (putB 2 (fillF (fun r => dE S r (sz S 2)) (sz S 0)) B)))) rfl rfl rfl (putB_c (rfl) (putB_c (fill_0) (putB_c (rfl) (putB_c (rfl) (rfl))))) rfl ?_
              exact l_sub (loc' := [some (vR (7, 0, 0)), some (vR (9, 2, 0)), some (vR (9, 3, 0)), some (vR (9, 4, 0)), some (vR (9, 5, 0)), some (vI (S.2 5)), some (vI (cntL S (sz S 2))), some (vI (S.2 8)), some (vI (nI 0))]) ⟨Or.inr rfl, ⟨Or.inr rfl, ⟨Or.inr rfl, ⟨Or.inr rfl, ⟨Or.inr rfl, ⟨Or.inr rfl, ⟨Or.inr rfl, ⟨Or.inr rfl, ⟨Or.inr rfl, trivial⟩⟩⟩⟩⟩⟩⟩⟩⟩ (lp165 (sz S 1 + 1) 0 (by omega) (by omega))
            · rw [nI_leI (by omega) (by omega)] at zc106
              obtain ⟨r0, hr0, hw0⟩ := (hV.2.2.2.1 i99 (by omega)).2.1
              refine l_blk (pc' := 113) (loc' := [some (vR (7, 0, 0)), some (vR (9, 2, 0)), some (vR (9, 3, 0)), some (vR (9, 4, 0)), some (vR (9, 5, 0)), some (vI (S.2 5)), some (vI (cntL S (sz S 2))), some (vI (S.2 8)), some (vI (nI i99))]) (st' := [vI (3 : Int32), vI (nI i99), vR (7, 0, 0)]) (B' := putB 5 (fillF (fun r => ce S 0 r 3) (sz S 0)) (putB 4 (fun _ => 0) (putB 3 (fillF (fun r => pE S r i99) (sz S 0)) (putB 2 (fillF (fun r => dE S r i99) (sz S 0)) B)))) [(109, .aload_n 0), (110, .iload 8), (112, .iconst 3)] (by decide +kernel) rfl rfl ?_
              refine l_callV (ce S 2 i99 3) ((S, (Hs, P)) : XS) [vI (nI i99), vI (3 : Int32)] [] vl_RL_107 mi_X4_task (k_task l (r_task3 hB (show i99 < sz S 2 by omega))) rfl rfl rfl ⟨Nat.le_of_ble_eq_true rfl, Nat.le_of_ble_eq_true rfl⟩ rfl (Nat.le_of_ble_eq_true rfl) ⟨Nat.le_of_ble_eq_true rfl, Nat.le_of_ble_eq_true rfl⟩ (by decide +kernel) ?_
              refine l_if_ne (off := 40) (tgt := 156) (by decide +kernel) (by decide) (fun zc116 => ?_) (fun zc116 => ?_)
              · refine l_blk (pc' := 99) (loc' := [some (vR (7, 0, 0)), some (vR (9, 2, 0)), some (vR (9, 3, 0)), some (vR (9, 4, 0)), some (vR (9, 5, 0)), some (vI (S.2 5)), some (vI (cntL S (sz S 2))), some (vI (S.2 8)), some (vI ((nI i99) + (1 : Int32)))]) (st' := []) (B' := putB 5 (fillF (fun r => ce S 0 r 3) (sz S 0)) (putB 4 (fun _ => 0) (putB 3 (fillF (fun r => pE S r i99) (sz S 0)) (putB 2 (fillF (fun r => dE S r i99) (sz S 0)) B)))) [(156, .iinc 8 1), (159, .goto (-60))] (by decide +kernel) rfl rfl ?_
                refine l_eq (B' := putB 5 (fillF (fun r => ce S 0 r 3) (sz S 0)) (putB 4 (fun _ => 0) (putB 3 (fillF (fun r => pE S r (i99 + 1)) (sz S 0)) (putB 2 (fillF (fun r => dE S r (i99 + 1)) (sz S 0)) B)))) rfl rfl rfl (putB_c (rfl) (putB_c (rfl) (putB_c (e5_n zc116) (putB_c (e4_n zc116) (rfl))))) rfl ?_
                exact l_sub (loc' := [some (vR (7, 0, 0)), some (vR (9, 2, 0)), some (vR (9, 3, 0)), some (vR (9, 4, 0)), some (vR (9, 5, 0)), some (vI (S.2 5)), some (vI (cntL S (sz S 2))), some (vI (S.2 8)), some (vI (nI (i99 + 1)))]) ⟨Or.inr rfl, ⟨Or.inr rfl, ⟨Or.inr rfl, ⟨Or.inr rfl, ⟨Or.inr rfl, ⟨Or.inr rfl, ⟨Or.inr rfl, ⟨Or.inr rfl, ⟨Or.inr (congrArg (fun z => some (vI z)) (nI_1 _).symm), trivial⟩⟩⟩⟩⟩⟩⟩⟩⟩ (ih99 (i99 + 1) (by omega) (by omega))
              · refine l_blk (pc' := 124) (loc' := [some (vR (7, 0, 0)), some (vR (9, 2, 0)), some (vR (9, 3, 0)), some (vR (9, 4, 0)), some (vR (9, 5, 0)), some (vI (S.2 5)), some (vI (cntL S (sz S 2))), some (vI (S.2 8)), some (vI (nI i99))]) (st' := [vI (1 : Int32), vI (nI i99), vR (7, 0, 0), vR (9, 2, 0)]) (B' := putB 5 (fillF (fun r => ce S 0 r 3) (sz S 0)) (putB 4 (fun _ => 0) (putB 3 (fillF (fun r => pE S r i99) (sz S 0)) (putB 2 (fillF (fun r => dE S r i99) (sz S 0)) B)))) [(119, .aload_n 1), (120, .aload_n 0), (121, .iload 8), (123, .iconst 1)] (by decide +kernel) rfl rfl ?_
                refine l_callV (nI r0) ((S, (Hs, P)) : XS) [vI (nI i99), vI (1 : Int32)] [vR (9, 2, 0)] vl_RL_107 mi_X4_task (k_task l ((r_task1 hB (show i99 < sz S 2 by omega)).trans (hw0))) rfl rfl rfl ⟨Nat.le_of_ble_eq_true rfl, Nat.le_of_ble_eq_true rfl⟩ rfl (Nat.le_of_ble_eq_true rfl) ⟨Nat.le_of_ble_eq_true rfl, Nat.le_of_ble_eq_true rfl⟩ (by decide +kernel) ?_
                refine l_blk (pc' := 128) (loc' := [some (vR (7, 0, 0)), some (vR (9, 2, 0)), some (vR (9, 3, 0)), some (vR (9, 4, 0)), some (vR (9, 5, 0)), some (vI (S.2 5)), some (vI (cntL S (sz S 2))), some (vI (S.2 8)), some (vI (nI i99))]) (st' := [vI (nI r0), vR (9, 2, 0), vI (nI r0), vR (9, 2, 0)]) (B' := putB 5 (fillF (fun r => ce S 0 r 3) (sz S 0)) (putB 4 (fun _ => 0) (putB 3 (fillF (fun r => pE S r i99) (sz S 0)) (putB 2 (fillF (fun r => dE S r i99) (sz S 0)) B)))) [(127, .dup2)] (by decide +kernel) rfl rfl ?_
                refine l_ald 2 (i := r0) (v := dE S r0 i99) (by decide) (show r0 < 8 by omega) (fill_at (f := fun r => dE S r i99) hr0) (by decide +kernel) ?_
                refine l_blk (pc' := 133) (loc' := [some (vR (7, 0, 0)), some (vR (9, 2, 0)), some (vR (9, 3, 0)), some (vR (9, 4, 0)), some (vR (9, 5, 0)), some (vI (S.2 5)), some (vI (cntL S (sz S 2))), some (vI (S.2 8)), some (vI (nI i99))]) (st' := [vI (2 : Int32), vI (nI i99), vR (7, 0, 0), vI (dE S r0 i99), vI (nI r0), vR (9, 2, 0)]) (B' := putB 5 (fillF (fun r => ce S 0 r 3) (sz S 0)) (putB 4 (fun _ => 0) (putB 3 (fillF (fun r => pE S r i99) (sz S 0)) (putB 2 (fillF (fun r => dE S r i99) (sz S 0)) B)))) [(129, .aload_n 0), (130, .iload 8), (132, .iconst 2)] (by decide +kernel) rfl rfl ?_
                refine l_callV (ce S 2 i99 2) ((S, (Hs, P)) : XS) [vI (nI i99), vI (2 : Int32)] [vI (dE S r0 i99), vI (nI r0), vR (9, 2, 0)] vl_RL_107 mi_X4_task (k_task l (r_task2 hB (show i99 < sz S 2 by omega))) rfl rfl rfl ⟨Nat.le_of_ble_eq_true rfl, Nat.le_of_ble_eq_true rfl⟩ rfl (Nat.le_of_ble_eq_true rfl) ⟨Nat.le_of_ble_eq_true rfl, Nat.le_of_ble_eq_true rfl⟩ (by decide +kernel) ?_
                refine l_blk (pc' := 137) (loc' := [some (vR (7, 0, 0)), some (vR (9, 2, 0)), some (vR (9, 3, 0)), some (vR (9, 4, 0)), some (vR (9, 5, 0)), some (vI (S.2 5)), some (vI (cntL S (sz S 2))), some (vI (S.2 8)), some (vI (nI i99))]) (st' := [vI ((dE S r0 i99) + (ce S 2 i99 2)), vI (nI r0), vR (9, 2, 0)]) (B' := putB 5 (fillF (fun r => ce S 0 r 3) (sz S 0)) (putB 4 (fun _ => 0) (putB 3 (fillF (fun r => pE S r i99) (sz S 0)) (putB 2 (fillF (fun r => dE S r i99) (sz S 0)) B)))) [(136, .iadd)] (by decide +kernel) rfl rfl ?_
                refine l_ast 2 (i := r0) (B' := putB 5 (fillF (fun r => ce S 0 r 3) (sz S 0)) (putB 4 (fun _ => 0) (putB 3 (fillF (fun r => pE S r i99) (sz S 0)) (putB 2 (upd (fillF (fun r => dE S r i99) (sz S 0)) r0 ((dE S r0 i99) + (ce S 2 i99 2))) B)))) (by decide) (show r0 < 8 by omega) (updB_tl (by decide) (updB_tl (by decide) (updB_tl (by decide) updB_hd))) (by decide +kernel) ?_
                refine l_blk (pc' := 143) (loc' := [some (vR (7, 0, 0)), some (vR (9, 2, 0)), some (vR (9, 3, 0)), some (vR (9, 4, 0)), some (vR (9, 5, 0)), some (vI (S.2 5)), some (vI (cntL S (sz S 2))), some (vI (S.2 8)), some (vI (nI i99))]) (st' := [vI (1 : Int32), vI (nI i99), vR (7, 0, 0), vR (9, 3, 0)]) (B' := putB 5 (fillF (fun r => ce S 0 r 3) (sz S 0)) (putB 4 (fun _ => 0) (putB 3 (fillF (fun r => pE S r i99) (sz S 0)) (putB 2 (upd (fillF (fun r => dE S r i99) (sz S 0)) r0 ((dE S r0 i99) + (ce S 2 i99 2))) B)))) [(138, .aload_n 2), (139, .aload_n 0), (140, .iload 8), (142, .iconst 1)] (by decide +kernel) rfl rfl ?_
                refine l_callV (nI r0) ((S, (Hs, P)) : XS) [vI (nI i99), vI (1 : Int32)] [vR (9, 3, 0)] vl_RL_107 mi_X4_task (k_task l ((r_task1 hB (show i99 < sz S 2 by omega)).trans (hw0))) rfl rfl rfl ⟨Nat.le_of_ble_eq_true rfl, Nat.le_of_ble_eq_true rfl⟩ rfl (Nat.le_of_ble_eq_true rfl) ⟨Nat.le_of_ble_eq_true rfl, Nat.le_of_ble_eq_true rfl⟩ (by decide +kernel) ?_
                refine l_blk (pc' := 147) (loc' := [some (vR (7, 0, 0)), some (vR (9, 2, 0)), some (vR (9, 3, 0)), some (vR (9, 4, 0)), some (vR (9, 5, 0)), some (vI (S.2 5)), some (vI (cntL S (sz S 2))), some (vI (S.2 8)), some (vI (nI i99))]) (st' := [vI (nI r0), vR (9, 3, 0), vI (nI r0), vR (9, 3, 0)]) (B' := putB 5 (fillF (fun r => ce S 0 r 3) (sz S 0)) (putB 4 (fun _ => 0) (putB 3 (fillF (fun r => pE S r i99) (sz S 0)) (putB 2 (upd (fillF (fun r => dE S r i99) (sz S 0)) r0 ((dE S r0 i99) + (ce S 2 i99 2))) B)))) [(146, .dup2)] (by decide +kernel) rfl rfl ?_
                refine l_ald 3 (i := r0) (v := pE S r0 i99) (by decide) (show r0 < 8 by omega) (fill_at (f := fun r => pE S r i99) hr0) (by decide +kernel) ?_
                refine l_blk (pc' := 151) (loc' := [some (vR (7, 0, 0)), some (vR (9, 2, 0)), some (vR (9, 3, 0)), some (vR (9, 4, 0)), some (vR (9, 5, 0)), some (vI (S.2 5)), some (vI (cntL S (sz S 2))), some (vI (S.2 8)), some (vI (nI i99))]) (st' := [vI (13 : Int32), vR (7, 0, 0), vI (pE S r0 i99), vI (nI r0), vR (9, 3, 0)]) (B' := putB 5 (fillF (fun r => ce S 0 r 3) (sz S 0)) (putB 4 (fun _ => 0) (putB 3 (fillF (fun r => pE S r i99) (sz S 0)) (putB 2 (upd (fillF (fun r => dE S r i99) (sz S 0)) r0 ((dE S r0 i99) + (ce S 2 i99 2))) B)))) [(148, .aload_n 0), (149, .bipush 13)] (by decide +kernel) rfl rfl ?_
                refine l_callV (ce S 4 0 0) ((S, (Hs, P)) : XS) [vI (13 : Int32)] [vI (pE S r0 i99), vI (nI r0), vR (9, 3, 0)] vl_RL_60 mi_X4_count (k_count l (r_count13)) rfl rfl rfl ⟨Nat.le_of_ble_eq_true rfl, Nat.le_of_ble_eq_true rfl⟩ rfl (Nat.le_of_ble_eq_true rfl) ⟨Nat.le_of_ble_eq_true rfl, Nat.le_of_ble_eq_true rfl⟩ (by decide +kernel) ?_
                refine l_blk (pc' := 155) (loc' := [some (vR (7, 0, 0)), some (vR (9, 2, 0)), some (vR (9, 3, 0)), some (vR (9, 4, 0)), some (vR (9, 5, 0)), some (vI (S.2 5)), some (vI (cntL S (sz S 2))), some (vI (S.2 8)), some (vI (nI i99))]) (st' := [vI ((pE S r0 i99) + (ce S 4 0 0)), vI (nI r0), vR (9, 3, 0)]) (B' := putB 5 (fillF (fun r => ce S 0 r 3) (sz S 0)) (putB 4 (fun _ => 0) (putB 3 (fillF (fun r => pE S r i99) (sz S 0)) (putB 2 (upd (fillF (fun r => dE S r i99) (sz S 0)) r0 ((dE S r0 i99) + (ce S 2 i99 2))) B)))) [(154, .iadd)] (by decide +kernel) rfl rfl ?_
                refine l_ast 3 (i := r0) (B' := putB 5 (fillF (fun r => ce S 0 r 3) (sz S 0)) (putB 4 (fun _ => 0) (putB 3 (upd (fillF (fun r => pE S r i99) (sz S 0)) r0 ((pE S r0 i99) + (ce S 4 0 0))) (putB 2 (upd (fillF (fun r => dE S r i99) (sz S 0)) r0 ((dE S r0 i99) + (ce S 2 i99 2))) B)))) (by decide) (show r0 < 8 by omega) (updB_tl (by decide) (updB_tl (by decide) updB_hd)) (by decide +kernel) ?_
                refine l_blk (pc' := 99) (loc' := [some (vR (7, 0, 0)), some (vR (9, 2, 0)), some (vR (9, 3, 0)), some (vR (9, 4, 0)), some (vR (9, 5, 0)), some (vI (S.2 5)), some (vI (cntL S (sz S 2))), some (vI (S.2 8)), some (vI ((nI i99) + (1 : Int32)))]) (st' := []) (B' := putB 5 (fillF (fun r => ce S 0 r 3) (sz S 0)) (putB 4 (fun _ => 0) (putB 3 (upd (fillF (fun r => pE S r i99) (sz S 0)) r0 ((pE S r0 i99) + (ce S 4 0 0))) (putB 2 (upd (fillF (fun r => dE S r i99) (sz S 0)) r0 ((dE S r0 i99) + (ce S 2 i99 2))) B)))) [(156, .iinc 8 1), (159, .goto (-60))] (by decide +kernel) rfl rfl ?_
                refine l_eq (B' := putB 5 (fillF (fun r => ce S 0 r 3) (sz S 0)) (putB 4 (fun _ => 0) (putB 3 (fillF (fun r => pE S r (i99 + 1)) (sz S 0)) (putB 2 (fillF (fun r => dE S r (i99 + 1)) (sz S 0)) B)))) rfl rfl rfl (putB_c (rfl) (putB_c (rfl) (putB_c (e5_z b0 hr0 hw0 zc116) (putB_c (e4_z b0 hr0 hw0 zc116) (rfl))))) rfl ?_
                exact l_sub (loc' := [some (vR (7, 0, 0)), some (vR (9, 2, 0)), some (vR (9, 3, 0)), some (vR (9, 4, 0)), some (vR (9, 5, 0)), some (vI (S.2 5)), some (vI (cntL S (sz S 2))), some (vI (S.2 8)), some (vI (nI (i99 + 1)))]) ⟨Or.inr rfl, ⟨Or.inr rfl, ⟨Or.inr rfl, ⟨Or.inr rfl, ⟨Or.inr rfl, ⟨Or.inr rfl, ⟨Or.inr rfl, ⟨Or.inr rfl, ⟨Or.inr (congrArg (fun z => some (vI z)) (nI_1 _).symm), trivial⟩⟩⟩⟩⟩⟩⟩⟩⟩ (ih99 (i99 + 1) (by omega) (by omega))
        refine l_eq (B' := putB 5 (fillF (fun r => ce S 0 r 3) (sz S 0)) (putB 4 (fun _ => 0) (putB 3 (fillF (fun r => pE S r 0) (sz S 0)) (putB 2 (fillF (fun r => dE S r 0) (sz S 0)) B)))) rfl rfl rfl (putB_c (rfl) (putB_c (rfl) (putB_c (rfl) (putB_c (rfl) (rfl))))) rfl ?_
        exact l_sub (loc' := [some (vR (7, 0, 0)), some (vR (9, 2, 0)), some (vR (9, 3, 0)), some (vR (9, 4, 0)), some (vR (9, 5, 0)), some (vI (S.2 5)), some (vI (cntL S (sz S 2))), some (vI (S.2 8)), some (vI (nI 0))]) ⟨Or.inr rfl, ⟨Or.inr rfl, ⟨Or.inr rfl, ⟨Or.inr rfl, ⟨Or.inr rfl, ⟨Or.inr rfl, ⟨Or.inr rfl, ⟨Or.inr rfl, ⟨Or.inr rfl, trivial⟩⟩⟩⟩⟩⟩⟩⟩⟩ (lp99 (sz S 2 + 1) 0 (by omega) (by omega))
      · rw [nI_leI (by omega) (by omega)] at zc53
        refine l_blk (pc' := 63) (loc' := [some (vR (7, 0, 0)), some (vR (9, 2, 0)), some (vR (9, 3, 0)), some (vR (9, 4, 0)), some (vR (9, 5, 0)), some (vI (S.2 5)), some (vI (cntL S (sz S 2))), some (vI (S.2 8)), some (vI (nI i46))]) (st' := [vI (2 : Int32), vI (nI i46), vR (7, 0, 0), vI (nI i46), vR (9, 2, 0)]) (B' := putB 5 (fillF (fun r => ce S 0 r 3) i46) (putB 4 (fun _ => 0) (putB 3 (fillF (fun r => ce S 0 r 5) i46) (putB 2 (fillF (fun r => ce S 0 r 4) i46) B)))) [(56, .aload_n 1), (57, .iload 8), (59, .aload_n 0), (60, .iload 8), (62, .iconst 2)] (by decide +kernel) rfl rfl ?_
        refine l_callV (ce S 0 i46 4) ((S, (Hs, P)) : XS) [vI (nI i46), vI (2 : Int32)] [vI (nI i46), vR (9, 2, 0)] vl_RL_98 mi_X4_about (k_about l (r_about2 hB (show i46 < sz S 0 by omega))) rfl rfl rfl ⟨Nat.le_of_ble_eq_true rfl, Nat.le_of_ble_eq_true rfl⟩ rfl (Nat.le_of_ble_eq_true rfl) ⟨Nat.le_of_ble_eq_true rfl, Nat.le_of_ble_eq_true rfl⟩ (by decide +kernel) ?_
        refine l_ast 2 (i := i46) (B' := putB 5 (fillF (fun r => ce S 0 r 3) i46) (putB 4 (fun _ => 0) (putB 3 (fillF (fun r => ce S 0 r 5) i46) (putB 2 (upd (fillF (fun r => ce S 0 r 4) i46) i46 (ce S 0 i46 4)) B)))) (by decide) (show i46 < 8 by omega) (updB_tl (by decide) (updB_tl (by decide) (updB_tl (by decide) updB_hd))) (by decide +kernel) ?_
        refine l_blk (pc' := 74) (loc' := [some (vR (7, 0, 0)), some (vR (9, 2, 0)), some (vR (9, 3, 0)), some (vR (9, 4, 0)), some (vR (9, 5, 0)), some (vI (S.2 5)), some (vI (cntL S (sz S 2))), some (vI (S.2 8)), some (vI (nI i46))]) (st' := [vI (3 : Int32), vI (nI i46), vR (7, 0, 0), vI (nI i46), vR (9, 3, 0)]) (B' := putB 5 (fillF (fun r => ce S 0 r 3) i46) (putB 4 (fun _ => 0) (putB 3 (fillF (fun r => ce S 0 r 5) i46) (putB 2 (upd (fillF (fun r => ce S 0 r 4) i46) i46 (ce S 0 i46 4)) B)))) [(67, .aload_n 2), (68, .iload 8), (70, .aload_n 0), (71, .iload 8), (73, .iconst 3)] (by decide +kernel) rfl rfl ?_
        refine l_callV (ce S 0 i46 5) ((S, (Hs, P)) : XS) [vI (nI i46), vI (3 : Int32)] [vI (nI i46), vR (9, 3, 0)] vl_RL_98 mi_X4_about (k_about l (r_about3 hB (show i46 < sz S 0 by omega))) rfl rfl rfl ⟨Nat.le_of_ble_eq_true rfl, Nat.le_of_ble_eq_true rfl⟩ rfl (Nat.le_of_ble_eq_true rfl) ⟨Nat.le_of_ble_eq_true rfl, Nat.le_of_ble_eq_true rfl⟩ (by decide +kernel) ?_
        refine l_ast 3 (i := i46) (B' := putB 5 (fillF (fun r => ce S 0 r 3) i46) (putB 4 (fun _ => 0) (putB 3 (upd (fillF (fun r => ce S 0 r 5) i46) i46 (ce S 0 i46 5)) (putB 2 (upd (fillF (fun r => ce S 0 r 4) i46) i46 (ce S 0 i46 4)) B)))) (by decide) (show i46 < 8 by omega) (updB_tl (by decide) (updB_tl (by decide) updB_hd)) (by decide +kernel) ?_
        refine l_blk (pc' := 86) (loc' := [some (vR (7, 0, 0)), some (vR (9, 2, 0)), some (vR (9, 3, 0)), some (vR (9, 4, 0)), some (vR (9, 5, 0)), some (vI (S.2 5)), some (vI (cntL S (sz S 2))), some (vI (S.2 8)), some (vI (nI i46))]) (st' := [vI (1 : Int32), vI (nI i46), vR (7, 0, 0), vI (nI i46), vR (9, 5, 0)]) (B' := putB 5 (fillF (fun r => ce S 0 r 3) i46) (putB 4 (fun _ => 0) (putB 3 (upd (fillF (fun r => ce S 0 r 5) i46) i46 (ce S 0 i46 5)) (putB 2 (upd (fillF (fun r => ce S 0 r 4) i46) i46 (ce S 0 i46 4)) B)))) [(78, .aload 4), (80, .iload 8), (82, .aload_n 0), (83, .iload 8), (85, .iconst 1)] (by decide +kernel) rfl rfl ?_
        refine l_callV (ce S 0 i46 3) ((S, (Hs, P)) : XS) [vI (nI i46), vI (1 : Int32)] [vI (nI i46), vR (9, 5, 0)] vl_RL_98 mi_X4_about (k_about l (r_about1 hB (show i46 < sz S 0 by omega))) rfl rfl rfl ⟨Nat.le_of_ble_eq_true rfl, Nat.le_of_ble_eq_true rfl⟩ rfl (Nat.le_of_ble_eq_true rfl) ⟨Nat.le_of_ble_eq_true rfl, Nat.le_of_ble_eq_true rfl⟩ (by decide +kernel) ?_
        refine l_ast 5 (i := i46) (B' := putB 5 (upd (fillF (fun r => ce S 0 r 3) i46) i46 (ce S 0 i46 3)) (putB 4 (fun _ => 0) (putB 3 (upd (fillF (fun r => ce S 0 r 5) i46) i46 (ce S 0 i46 5)) (putB 2 (upd (fillF (fun r => ce S 0 r 4) i46) i46 (ce S 0 i46 4)) B)))) (by decide) (show i46 < 8 by omega) (updB_hd) (by decide +kernel) ?_
        refine l_blk (pc' := 46) (loc' := [some (vR (7, 0, 0)), some (vR (9, 2, 0)), some (vR (9, 3, 0)), some (vR (9, 4, 0)), some (vR (9, 5, 0)), some (vI (S.2 5)), some (vI (cntL S (sz S 2))), some (vI (S.2 8)), some (vI ((nI i46) + (1 : Int32)))]) (st' := []) (B' := putB 5 (upd (fillF (fun r => ce S 0 r 3) i46) i46 (ce S 0 i46 3)) (putB 4 (fun _ => 0) (putB 3 (upd (fillF (fun r => ce S 0 r 5) i46) i46 (ce S 0 i46 5)) (putB 2 (upd (fillF (fun r => ce S 0 r 4) i46) i46 (ce S 0 i46 4)) B)))) [(90, .iinc 8 1), (93, .goto (-47))] (by decide +kernel) rfl rfl ?_
        refine l_eq (B' := putB 5 (fillF (fun r => ce S 0 r 3) (i46 + 1)) (putB 4 (fun _ => 0) (putB 3 (fillF (fun r => ce S 0 r 5) (i46 + 1)) (putB 2 (fillF (fun r => ce S 0 r 4) (i46 + 1)) B)))) rfl rfl rfl (putB_c (fill_s (f := (fun r => ce S 0 r 3))) (putB_c (rfl) (putB_c (fill_s (f := (fun r => ce S 0 r 5))) (putB_c (fill_s (f := (fun r => ce S 0 r 4))) (rfl))))) rfl ?_
        exact l_sub (loc' := [some (vR (7, 0, 0)), some (vR (9, 2, 0)), some (vR (9, 3, 0)), some (vR (9, 4, 0)), some (vR (9, 5, 0)), some (vI (S.2 5)), some (vI (cntL S (sz S 2))), some (vI (S.2 8)), some (vI (nI (i46 + 1)))]) ⟨Or.inr rfl, ⟨Or.inr rfl, ⟨Or.inr rfl, ⟨Or.inr rfl, ⟨Or.inr rfl, ⟨Or.inr rfl, ⟨Or.inr rfl, ⟨Or.inr rfl, ⟨Or.inr (congrArg (fun z => some (vI z)) (nI_1 _).symm), trivial⟩⟩⟩⟩⟩⟩⟩⟩⟩ (ih46 (i46 + 1) (by omega) (by omega))
  refine l_eq (B' := putB 5 (fillF (fun r => ce S 0 r 3) 0) (putB 4 (fun _ => 0) (putB 3 (fillF (fun r => ce S 0 r 5) 0) (putB 2 (fillF (fun r => ce S 0 r 4) 0) B)))) rfl rfl rfl (putB_c (fill_0) (putB_c (rfl) (putB_c (fill_0) (putB_c (fill_0) (rfl))))) rfl ?_
  exact l_sub (loc' := [some (vR (7, 0, 0)), some (vR (9, 2, 0)), some (vR (9, 3, 0)), some (vR (9, 4, 0)), some (vR (9, 5, 0)), some (vI (S.2 5)), some (vI (cntL S (sz S 2))), some (vI (S.2 8)), some (vI (nI 0))]) ⟨Or.inr rfl, ⟨Or.inr rfl, ⟨Or.inr rfl, ⟨Or.inr rfl, ⟨Or.inr rfl, ⟨Or.inr rfl, ⟨Or.inr rfl, ⟨Or.inr rfl, ⟨Or.inr rfl, trivial⟩⟩⟩⟩⟩⟩⟩⟩⟩ (lp46 (sz S 0 + 1) 0 (by omega) (by omega))
