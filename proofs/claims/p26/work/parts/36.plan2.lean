/-! PLANNING: the whole of it is the same -/
theorem insA_len : ∀ (l L : List Tr), (insA l L).length = L.length + l.length
  | [], L => rfl
  | x :: l, L => by
    show (insA l (insF x L)).length = _
    rw [insA_len l, insF_len, List.length_cons]; omega
theorem tk_len (S : HA) (a : Nat) : (tkL S a).length ≤ 2 := by
  unfold tkL
  split
  · split
    · exact Nat.zero_le _
    · exact Nat.le_succ 1
  · exact Nat.le_refl 2
theorem IL_len {S : HA} {F : Nat → Bool} : ∀ n, (IL S F n).length ≤ 2 * n
  | 0 => Nat.le_refl _
  | n + 1 => by
    have ih := IL_len (S := S) (F := F) n
    rw [IL]
    split
    · omega
    · rw [insA_len]
      have := tk_len S n
      omega
theorem cU_le {F : Nat → Bool} : ∀ n, cU F n ≤ n
  | 0 => Nat.le_refl _
  | n + 1 => by
    have ih := cU_le (F := F) n
    rw [cU]
    split <;> omega
theorem bit0 : ∀ i, i < 6 → bitF (nI 0) i = false := by decide +kernel
theorem il_tb {S : HA} (hV : VA S) (hb : sz S 1 ≤ 6) (hT : TWL (IL S (fun _ => false) (sz S 1))) : TB (IL S (fun _ => false) (sz S 1)) (sz S 1) := by
  refine ⟨hT, by have := IL_len (S := S) (F := fun _ => false) (sz S 1); omega, fun x hx => ?_⟩
  obtain ⟨a, h1, -, h2⟩ := IL_mem _ hx
  obtain ⟨m1, m2, m3⟩ := tk_mem h2
  refine ⟨⟨a, h1, m1⟩, ?_, m3⟩
  rcases eff_val hV hb h1 with ⟨-, q⟩ | ⟨e, -, q1, q2, -⟩
  · rw [q] at h2; exact absurd h2 List.not_mem_nil
  · exact ⟨e, q1, by rw [m2, q2]⟩
theorem v_F6 {S : HA} {n : Nat} (hV : V S n) : V (setF S 6 1) n := by
  obtain ⟨⟨-, a2, a3, ⟨w, h1, h2⟩⟩, a5, a6, a7, a8, a9, a10⟩ := hV
  refine ⟨⟨⟨Or.inr F_at, fun h => absurd h (by rw [F_at]; decide)⟩, a2, a3, ⟨w, h1, (F_ne (by decide)).trans h2⟩⟩, fun r hr => ?_, a6, a7, a8, a9, a10⟩
  have e := os_of (S := S) (S' := setF S 6 1) (fun _ _ => rfl) r (sz (setF S 6 1) 2)
  rw [e]
  exact a5 r hr
theorem leastS6 (S : HA) : leastS S (-6) = leastL S (-6) (sz S 0) := by
  rw [leastS]
  by_cases h : leastL S (-6) (sz S 0) = -6
  · rw [if_neg (not_not_intro h), h]
  · rw [if_pos h]
theorem v_no3 {S : HA} {n : Nat} (hV : V S n) (h0 : sz S 2 = 0) : sz S 3 = 0 := by
  rcases Nat.eq_zero_or_pos (sz S 3) with q | q
  · exact q
  · obtain ⟨t, ht, -⟩ := hV.w 0 0 q (by decide)
    omega
set_option maxHeartbeats 1000000 in
theorem plan_in {S : HA} {f : Nat → Int32} {n w : Nat} (hE : ED S f) (hV : V S n) (h0 : sz S 2 = 0) (hw : S.2 5 = nI w) (hw9 : w ≤ 999) (h6 : S.2 6 = 1) (hhere : ∃ r, r < sz S 0 ∧ awayS S (nI r) = 0) :
    ED (giveF (sz (mkS (sz S 1) S 0) 2) 0 (mkS (sz S 1) S 0)) (gvM (sz S 0) (plA (sz S 1) 0 f 0).2 (plA (sz S 1) 0 f 0).2 0 (plA (sz S 1) 0 f 0).1) ∧
    V (giveF (sz (mkS (sz S 1) S 0) 2) 0 (mkS (sz S 1) S 0)) (n + 720) ∧ (plA (sz S 1) 0 f 0).2 = sz (giveF (sz (mkS (sz S 1) S 0) 2) 0 (mkS (sz S 1) S 0)) 2 ∧ (giveF (sz (mkS (sz S 1) S 0) 2) 0 (mkS (sz S 1) S 0)).2 = S.2 := by
  obtain ⟨⟨a1, ⟨b0, b1, b2, b3⟩, a3, a4⟩, a5, a6, a7, a8, a9, a10⟩ := id hV
  have h30 := v_no3 hV h0
  obtain ⟨mA, mX, mC, mT⟩ : SA S (mkS (sz S 1) S 0) ∧ XR (mkS (sz S 1) S 0) ([] ++ IL S (bitF (nI 0)) (sz S 1)) ∧ VC (mkS (sz S 1) S 0) ∧ TWL (IL S (bitF (nI 0)) (sz S 1)) :=
    mkS_ok a6 b1 (sz S 1) S 0 [] (by decide) ⟨fun _ _ => rfl, rfl⟩ ⟨h0, fun t x h => by simp at h⟩ a10 (by rw [List.length_nil]; omega) (cU_le _)
  have hIL : IL S (bitF (nI 0)) (sz S 1) = IL S (fun _ => false) (sz S 1) := IL_congr _ (fun i hi => bit0 i (by omega))
  rw [hIL] at mX mT
  rw [List.nil_append] at mX
  have f3 : f 3 = nI 0 := by rw [hE.2.2.1.2.2.1, h0]
  have hM := plA_ok (S := S) a6 b1 (sz S 1) 0 f 0 ⟨hE.2.2.2.2.2.1, hE.2.1.1, hE.2.2.2.1 2 (by decide), hE.2.2.2.1 3 (by decide)⟩ (by omega) ⟨rfl, fun t x h => by rw [IL] at h; simp at h⟩
  have hB := il_tb a6 b1 mT
  have lo : ∀ j, j < 90 → j ≠ 3 → (plA (sz S 1) 0 f 0).1 j = f j := fun j h h3 => plA_lo h h3 _ _ _ _
  have p3 : (plA (sz S 1) 0 f 0).1 3 = nI (plA (sz S 1) 0 f 0).2 := plA_3 _ _ _ _ f3
  generalize IL S (fun _ => false) (sz S 1) = L at mX mT hM hB
  generalize mkS (sz S 1) S 0 = S1 at mA mX mC ⊢
  generalize plA (sz S 1) 0 f 0 = p at hM lo p3 ⊢
  have e2 : sz S1 2 = L.length := mX.1
  have ep : p.2 = L.length := hM.1.symm
  rw [ep] at p3
  rw [e2, ep]
  obtain ⟨-, ⟨hs0, hs4, hs5, hs6⟩, ⟨hc1, hc2, hc3, hc7⟩, hG, hO, hA, hK, hW⟩ := hE
  have hm : ∀ r c, r < 8 → c < 6 → mo p.1 r c = mo f r c := fun r c hr hc => by
    show p.1 (12 + 6 * r + c) = f (12 + 6 * r + c)
    exact lo _ (by omega) (by omega)
  have G0 : GI S L 0 S1 p.1 := by
    refine ⟨⟨e2, fun u x hx => ?_⟩, fun j hj => by unfold sz; rw [mA.1 j hj], fun j r c _ h2 => by unfold ce; rw [mA.1 j h2], fun r c _ => by unfold ce; rw [mA.1 0 (by decide)], mA.2, fun u hu => absurd hu (Nat.not_lt_zero _), fun r hr => ?_, mC, fun _ _ => Or.inr trivial, fun r hr => ?_, fun a c ha hc => ?_, ⟨(lo 0 (by decide) (by decide)).trans hs0, (lo 4 (by decide) (by decide)).trans hs4, (lo 5 (by decide) (by decide)).trans hs5, (lo 6 (by decide) (by decide)).trans hs6⟩, fun j hj => (lo (8 + j) (by omega) (by omega)).trans (hG j hj), fun s c hs _ => absurd hs (by omega), (lo 1 (by decide) (by decide)).trans hc1, (lo 2 (by decide) (by decide)).trans hc2, p3, (lo 7 (by decide) (by decide)).trans hc7⟩
    · obtain ⟨x0, x2, x4, x3⟩ := mX.2 u x hx
      obtain ⟨m0, m2, m4, m1, m3⟩ := hM.2 u x hx
      exact ⟨x0, x2, x4, x3, m0, m2, m4, m3, by rw [if_neg (Nat.not_lt_zero _)]; exact m1⟩
    · show ce S1 0 r 6 = nI 0
      have q := (a5 r hr).2.2.2
      rw [h0] at q
      unfold ce
      rw [mA.1 0 (by decide)]
      exact q
    · rw [hm r 0 (by omega) (by decide), hm r 1 (by omega) (by decide), hm r 2 (by omega) (by decide), hm r 3 (by omega) (by decide), hm r 4 (by omega) (by decide), hm r 5 (by omega) (by decide)]
      exact hO r hr
    · show p.1 (60 + 5 * a + c) = _
      rw [lo _ (by omega) (by omega)]
      exact hA a c ha hc
  have GF := gi_loop hV h0 hB hw hw9 hhere L.length 0 S1 p.1 (by omega) G0
  generalize giveF L.length 0 S1 = Y at GF ⊢
  generalize gvM (sz S 0) L.length L.length 0 p.1 = g at GF ⊢
  obtain ⟨⟨g1, g2⟩, gB, gC, gD, gE, gF, gG, gH, -, gO, gA, gS, gG4, gW, c1, c2, c3, c7⟩ := GF
  have gx : ∀ u, u < L.length → ∃ x, L[u]? = some x ∧ x ∈ L := fun u hu => ⟨L[u], List.getElem?_eq_getElem hu, List.getElem_mem hu⟩
  have hl12 : L.length ≤ 12 := hB.2.1
  have B0 := gB 0 (by decide)
  have B1 := gB 1 (by decide)
  have B3 := gB 3 (by decide)
  have B4 := gB 4 (by decide)
  have EBY : EB Y := ⟨by rw [B0]; exact b0, by rw [B1]; exact b1, by rw [g1]; exact hl12, by rw [B3]; exact b3⟩
  have VKY : VK Y := fun t ht => by
    rw [g1] at ht
    obtain ⟨x, hx, hxm⟩ := gx t ht
    obtain ⟨y0, y2, y4, y3, -⟩ := g2 t x hx
    obtain ⟨⟨a, ha, hxa⟩, ⟨e, he, hxe⟩, h4⟩ := hB.2.2 x hxm
    obtain ⟨r, hr, hre⟩ := gF t ht
    exact ⟨⟨a, by rw [B1]; exact ha, y0.trans hxa⟩, ⟨r, by rw [B0]; exact hr, hre⟩, ⟨e, he, y2.trans hxe⟩, Or.inl y3, by rw [y4]; exact h4⟩
  refine ⟨⟨EBY, ⟨gS.1.trans (by rw [gE]), gS.2.1.trans (by rw [gE]), gS.2.2.1.trans (by rw [gE]), gS.2.2.2.trans (by rw [gE])⟩, ⟨by rw [c1, B0], by rw [c2, B1], by rw [c3, g1], by rw [c7, B3]⟩, fun j hj => ?_, fun r hr => ?_, fun a c ha hc => ?_, fun t c ht hc => ?_, fun s c hs hc => ?_⟩, ⟨⟨⟨Or.inr (by rw [gE]; exact h6), fun h => ?_⟩, EBY, by rw [B4]; exact a3, by rw [gE]; exact a4⟩, fun r hr => ?_, ⟨fun a ha => ?_, ?_⟩, VKY, ⟨fun t u htu hu e => ?_, fun t ht h4 => ?_⟩, fun s c hs hc => ?_, gH⟩, g1.symm, gE⟩
  · rw [gC 4 0 j (by decide) (by decide)]; exact gG4 j hj
  · rw [B0] at hr
    rw [gD r 0 (by decide), gD r 3 (by decide), gD r 4 (by decide), gD r 5 (by decide), gD r 1 (by decide), gD r 2 (by decide)]
    exact gO r hr
  · rw [B1] at ha
    rw [gC 1 a c (by decide) (by decide)]
    exact gA a c ha hc
  · rw [g1] at ht
    obtain ⟨x, hx, -⟩ := gx t ht
    obtain ⟨y0, y2, y4, y3, n0, n2, n4, n3, n1⟩ := g2 t x hx
    rw [if_pos ht] at n1
    rcases (show c = 0 ∨ c = 1 ∨ c = 2 ∨ c = 3 ∨ c = 4 by omega) with q | q | q | q | q
    · rw [q]; exact n0.trans y0.symm
    · rw [q]; exact n1
    · rw [q]; exact n2.trans y2.symm
    · rw [q]; exact n3.trans y3.symm
    · rw [q]; exact n4.trans y4.symm
  · rw [B3, h30] at hs; exact absurd hs (Nat.not_lt_zero _)
  · rw [gE, h6] at h; exact absurd h (by decide)
  · rw [B0] at hr
    have os := os_le VKY (r := r) (sz Y 2) (Nat.le_refl _)
    obtain ⟨hw1, ⟨k, hk, hk3⟩, ⟨k', hk', hk4⟩, -⟩ := a5 r hr
    rw [gD r 0 (by decide), gD r 3 (by decide), gD r 4 (by decide)]
    refine ⟨hw1, ⟨k, by rw [g1] at os ⊢; omega, hk3⟩, ⟨k', by omega, hk4⟩, by rw [g1]; exact gG r hr⟩
  · rw [B1] at ha
    rw [gC 1 a 0 (by decide) (by decide), gC 1 a 1 (by decide) (by decide)]
    exact a6.1 a ha
  · rw [gC 4 0 2 (by decide) (by decide)]; exact a6.2
  · rw [g1] at hu
    obtain ⟨x, hx, -⟩ := gx t (by omega)
    obtain ⟨y, hy, -⟩ := gx u hu
    obtain ⟨x0, -, x4, -⟩ := g2 t x hx
    obtain ⟨y0, -, y4, -⟩ := g2 u y hy
    rw [x0, y0] at e
    rw [x4, y4]
    exact mT.1 t u x y htu hx hy e
  · rw [g1] at ht
    obtain ⟨x, hx, -⟩ := gx t ht
    obtain ⟨x0, -, x4, -⟩ := g2 t x hx
    rw [x4] at h4
    rcases mT.2 t x hx h4 with ⟨y, hy, e⟩ | ⟨u, y, hu, hy, e⟩
    · exact Or.inl ⟨by rw [g1]; exact (List.getElem?_eq_some_iff.mp hy).1, by rw [(g2 _ y hy).1, x0, e]⟩
    · exact Or.inr ⟨u, hu, by rw [(g2 u y hy).1, x0, e]⟩
  · rw [B3, h30] at hs; exact absurd hs (Nat.not_lt_zero _)
set_option maxHeartbeats 1000000 in
theorem plan_ok {S : HA} {f : Nat → Int32} {n : Nat} (hE : ED S f) (hV : V S n) (h0 : sz S 2 = 0) :
    ED (planS S) (planM f (sz S 0) (sz S 1)).1 ∧ V (planS S) (n + 720) ∧ (planM f (sz S 0) (sz S 1)).2 = sz (planS S) 2 ∧ (planS S).2 = (setF S 6 1).2 := by
  have V0 := v_F6 hV
  obtain ⟨hb0, hb1, hb2, hb3⟩ := hV.1.2.1
  obtain ⟨w, hw9, hw⟩ := hV.1.2.2.2
  have E0 : ED (setF S 6 1) (upd (upd f 4 1) 3 0) := by
    have e3 : upd (upd f 4 1) 3 0 = upd f 4 1 := by
      funext i
      by_cases q : i = 3
      · rw [q, up_at, up_ne (by decide), hE.2.2.1.2.2.1, h0]; rfl
      · rw [up_ne q]
    rw [e3]; exact e_f6 hE 1
  have hl0 : ∀ r, r < sz (setF S 6 1) 0 → lm (upd (upd f 4 1) 3 0) r 0 = loadS (setF S 6 1) (nI r) := fun r hr => by
    have := load_eq E0 V0 (r := r) hr
    have s2 : sz (setF S 6 1) 2 = 0 := h0
    rw [s2] at this
    exact this
  have hbe : bestL (upd (upd f 4 1) 3 0) (-6) 0 (sz S 0) = leastL (setF S 6 1) (-6) (sz S 0) := best_eq (S := setF S 6 1) (f := upd (upd f 4 1) 3 0) (nt := 0) (w := w) hb0 E0.2.2.2.2.1 (E0.2.1.1.trans ((F_ne (by decide)).trans hw)) ((F_ne (by decide)).trans hw) hw9 hl0 (-6) (sz S 0) (Nat.le_refl _)
  have els : leastS (setF S 6 1) (-6) = leastL (setF S 6 1) (-6) (sz S 0) := leastS6 _
  unfold planS planM
  simp only
  rw [els, hbe]
  by_cases q : leastL (setF S 6 1) (-6) (sz S 0) = -6
  · rw [if_pos q, if_pos q]
    exact ⟨E0, V0.le (by omega), h0.symm, rfl⟩
  · rw [if_neg q, if_neg q]
    have hh : ∃ r, r < sz (setF S 6 1) 0 ∧ awayS (setF S 6 1) (nI r) = 0 := by
      rcases least_or (setF S 6 1) (-6) (sz S 0) (by omega) with ⟨z, -⟩ | ⟨m, m1, m2, m3⟩
      · exact absurd z q
      · refine ⟨m, m1, ?_⟩
        by_cases z : awayS (setF S 6 1) (nI m) = 0
        · exact z
        · exfalso
          apply m3
          rw [freeS]
          split
          · rfl
          · rfl
    have R := plan_in E0 V0 h0 ((F_ne (by decide)).trans hw) hw9 F_at hh
    exact ⟨R.1, R.2.1, R.2.2.1, R.2.2.2⟩
