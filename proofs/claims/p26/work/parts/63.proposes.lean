/-! proposes() of the law -/
theorem can_n {S : HA} {a b : Nat} (hB : EB S) (ha : a < sz S 2) (hb : b < sz S 2) : canS S (nI a) (nI b) = if ¬ ce S 2 a 3 = 0 then 0 else if ¬ ce S 2 b 3 = 0 then 0 else if ce S 2 a 1 = ce S 2 b 1 then 0 else 1 := by
  have h := eb31 hB
  rw [canS, open_n (by omega) ha, open_n (by omega) hb, cl1 (by omega), cl1 (by omega)]
  by_cases q1 : ce S 2 a 3 = 0
  · rw [if_pos q1, if_neg (by decide), if_neg (not_not_intro q1)]
    by_cases q2 : ce S 2 b 3 = 0
    · rw [if_pos q2, if_neg (by decide), if_neg (not_not_intro q2)]
    · rw [if_neg q2, if_pos rfl, if_pos q2]
  · rw [if_neg q1, if_pos rfl, if_pos q1]
theorem can01 {S : HA} {a b : Nat} (hB : EB S) (ha : a < sz S 2) (hb : b < sz S 2) : canS S (nI a) (nI b) = 0 ∨ canS S (nI a) (nI b) = 1 := by
  rw [can_n hB ha hb]
  split
  · exact Or.inl rfl
  · split
    · exact Or.inl rfl
    · split
      · exact Or.inl rfl
      · exact Or.inr rfl
theorem can_1 {S : HA} {a b : Nat} (hB : EB S) (ha : a < sz S 2) (hb : b < sz S 2) (h : ¬ canS S (nI a) (nI b) = 0) : ce S 2 a 3 = 0 ∧ ce S 2 b 3 = 0 ∧ ¬ ce S 2 a 1 = ce S 2 b 1 := by
  rw [can_n hB ha hb] at h
  by_cases q1 : ce S 2 a 3 = 0
  · by_cases q2 : ce S 2 b 3 = 0
    · refine ⟨q1, q2, fun z => h ?_⟩
      rw [if_neg (not_not_intro q1), if_neg (not_not_intro q2), if_pos z]
    · exact absurd (by rw [if_neg (not_not_intro q1), if_pos q2]) h
  · exact absurd (if_pos q1) h
def canD (S : HA) (a b c : Int32) : Nat → Int32
  | 0 => c
  | k + 1 => if ¬ ce S 3 k 0 = a then canD S a b c k else if ¬ ce S 3 k 1 = b then canD S a b c k else 0
theorem cd01 {S : HA} {a b c : Int32} (hc : c = 0 ∨ c = 1) : ∀ n, canD S a b c n = 0 ∨ canD S a b c n = 1
  | 0 => hc
  | n + 1 => by
    rw [canD]
    split
    · exact cd01 hc n
    · split
      · exact cd01 hc n
      · exact Or.inl rfl
theorem cd_iff {S : HA} {a b c : Int32} (hc : c = 0 ∨ c = 1) : ∀ n, canD S a b c n = 0 ↔ (c = 0 ∨ ∃ s, s < n ∧ ce S 3 s 0 = a ∧ ce S 3 s 1 = b)
  | 0 => ⟨fun h => Or.inl h, fun h => h.elim id (fun ⟨s, h, _⟩ => absurd h (Nat.not_lt_zero _))⟩
  | n + 1 => by
    have ih := cd_iff (S := S) (a := a) (b := b) hc n
    have up : (c = 0 ∨ ∃ s, s < n ∧ ce S 3 s 0 = a ∧ ce S 3 s 1 = b) → (c = 0 ∨ ∃ s, s < n + 1 ∧ ce S 3 s 0 = a ∧ ce S 3 s 1 = b) := fun h => h.imp id (fun ⟨s, h, r⟩ => ⟨s, by omega, r⟩)
    have dn : ¬ (ce S 3 n 0 = a ∧ ce S 3 n 1 = b) → (c = 0 ∨ ∃ s, s < n + 1 ∧ ce S 3 s 0 = a ∧ ce S 3 s 1 = b) → (c = 0 ∨ ∃ s, s < n ∧ ce S 3 s 0 = a ∧ ce S 3 s 1 = b) := fun hx h => h.imp id (fun ⟨s, h, r⟩ => by
      by_cases q : s = n
      · subst q; exact absurd r hx
      · exact ⟨s, by omega, r⟩)
    rw [canD]
    by_cases q1 : ce S 3 n 0 = a
    · rw [if_neg (not_not_intro q1)]
      by_cases q2 : ce S 3 n 1 = b
      · rw [if_neg (not_not_intro q2)]; exact ⟨fun _ => Or.inr ⟨n, by omega, q1, q2⟩, fun _ => rfl⟩
      · rw [if_pos q2, ih]; exact ⟨up, dn (fun z => q2 z.2)⟩
    · rw [if_pos q1, ih]; exact ⟨up, dn (fun z => q1 z.1)⟩
theorem cd_0 {S : HA} {a b c : Int32} {i : Nat} (hc : c = 0 ∨ c = 1) (h : ¬ ce S 3 i 0 = a) : canD S a b c (i + 1) = canD S a b c i &&& 1 := by
  rw [canD, if_pos h]; exact and1 (cd01 hc i)
theorem cd_1 {S : HA} {a b c : Int32} {i : Nat} (hc : c = 0 ∨ c = 1) (h : ce S 3 i 0 = a) (h2 : ¬ ce S 3 i 1 = b) : canD S a b c (i + 1) = canD S a b c i &&& 1 := by
  rw [canD, if_neg (not_not_intro h), if_pos h2]; exact and1 (cd01 hc i)
theorem cd_2 {S : HA} {a b c : Int32} {i : Nat} (hc : c = 0 ∨ c = 1) (h : ce S 3 i 0 = a) (h2 : ce S 3 i 1 = b) : canD S a b c (i + 1) = canD S a b c i &&& 0 := by
  rw [canD, if_neg (not_not_intro h), if_neg (not_not_intro h2)]; exact and0 (cd01 hc i)
theorem prop_iff {S : HA} {a b : Int32} (h31 : sz S 3 < 2 ^ 31) : ∀ k t, t + k = sz S 3 → (propF S a b k t = 0 ↔ ∀ s, t ≤ s → s < sz S 3 → ¬ (ce S 3 s 0 = a ∧ ce S 3 s 1 = b)) := by
  intro k
  induction k with
  | zero => intro t ht; exact ⟨fun _ s h1 h2 => by omega, fun _ => rfl⟩
  | succ k ih =>
    intro t ht
    have ih := ih (t + 1) (by omega)
    have st : ¬ (ce S 3 t 0 = a ∧ ce S 3 t 1 = b) → (propF S a b k (t + 1) = 0 ↔ ∀ s, t ≤ s → s < sz S 3 → ¬ (ce S 3 s 0 = a ∧ ce S 3 s 1 = b)) := fun hn => by
      rw [ih]
      refine ⟨fun h s h1 h2 => ?_, fun h s h1 h2 => h s (by omega) h2⟩
      by_cases q : s = t
      · rw [q]; exact hn
      · exact h s (by omega) h2
    rw [propF, cl0 (by omega), cl1 (by omega)]
    by_cases q0 : ce S 3 t 0 = a
    · rw [if_neg (not_not_intro q0)]
      by_cases q1 : ce S 3 t 1 = b
      · rw [if_neg (not_not_intro q1)]
        exact ⟨fun h => absurd h (by decide), fun h => absurd ⟨q0, q1⟩ (h t (Nat.le_refl _) (by omega))⟩
      · rw [if_pos q1]; exact st (fun z => q1 z.2)
    · rw [if_pos q0]; exact st (fun z => q0 z.1)
theorem x_prop5 {S : HA} {Hs : List HA} {P : PV} {a b : Nat} (hB : EB S) (ha : a < sz S 2) (hb : b < sz S 2) (h : canS S (nI a) (nI b) = 0 ∨ ∃ s, s < sz S 3 ∧ ce S 3 s 0 = nI a ∧ ce S 3 s 1 = nI b) : xpropose S Hs P (nI a) (nI b) = (-5, (S, (Hs, P))) := by
  have h31 := eb31 hB
  rw [xpropose, if_neg (has_lt ha (by omega)), if_pos (has_lt hb (by omega))]
  by_cases q : canS S (nI a) (nI b) = 0
  · rw [if_pos q]
  · rw [if_neg q]
    obtain ⟨s, h1, h2⟩ := h.resolve_left q
    rw [if_neg (fun z => ((prop_iff h31.2.2.2 (sz S 3) 0 (by omega)).mp z) s (Nat.zero_le _) h1 h2)]
theorem prop_no {S : HA} {a b : Nat} (hB : EB S) (h : ¬ (canS S (nI a) (nI b) = 0 ∨ ∃ s, s < sz S 3 ∧ ce S 3 s 0 = nI a ∧ ce S 3 s 1 = nI b)) : propF S (nI a) (nI b) (sz S 3) 0 = 0 :=
  (prop_iff (eb31 hB).2.2.2 (sz S 3) 0 (by omega)).mpr (fun s _ h2 h3 => h (Or.inr ⟨s, h2, h3⟩))
theorem x_prop4 {S : HA} {Hs : List HA} {P : PV} {a b : Nat} (hB : EB S) (ha : a < sz S 2) (hb : b < sz S 2) (h : ¬ (canS S (nI a) (nI b) = 0 ∨ ∃ s, s < sz S 3 ∧ ce S 3 s 0 = nI a ∧ ce S 3 s 1 = nI b)) (h6 : sz S 3 = 6) : xpropose S Hs P (nI a) (nI b) = (-4, (S, (Hs, P))) := by
  have h31 := eb31 hB
  rw [xpropose, if_neg (has_lt ha (by omega)), if_pos (has_lt hb (by omega)), if_neg (fun z => h (Or.inl z)), if_pos (prop_no hB h), fullS, if_pos (show mst 3 ≤ sz S 3 by rw [h6]; decide), if_neg (by decide)]
theorem x_prop1 {S : HA} {Hs : List HA} {P : PV} {a b : Nat} (hB : EB S) (ha : a < sz S 2) (hb : b < sz S 2) (h : ¬ (canS S (nI a) (nI b) = 0 ∨ ∃ s, s < sz S 3 ∧ ce S 3 s 0 = nI a ∧ ce S 3 s 1 = nI b)) (h6 : sz S 3 < 6) : xpropose S Hs P (nI a) (nI b) = (nI (sz S 3) + 1, (addSwS S (nI a) (nI b), (keepL Hs S, P))) := by
  have h31 := eb31 hB
  have hs : sz (addSwS S (nI a) (nI b)) 3 = sz S 3 + 1 := by rw [addW_eq h6, addWN, sz_W, sz_W, sz_app, if_pos rfl]
  rw [xpropose, if_neg (has_lt ha (by omega)), if_pos (has_lt hb (by omega)), if_neg (fun z => h (Or.inl z)), if_pos (prop_no hB h), fullS, if_neg (show ¬ mst 3 ≤ sz S 3 by show ¬ 6 ≤ sz S 3; omega), if_pos rfl, hs, nI_1]
  rfl
theorem prop_facts {S : HA} {n a b : Nat} (hV : V S n) (ha : a < sz S 2) (hb : b < sz S 2) (h : ¬ (canS S (nI a) (nI b) = 0 ∨ ∃ s, s < sz S 3 ∧ ce S 3 s 0 = nI a ∧ ce S 3 s 1 = nI b)) (h6 : sz S 3 < 6) :
    V (addSwS S (nI a) (nI b)) n ∧ (∀ j, j ≠ 3 → sz (addSwS S (nI a) (nI b)) j = sz S j) ∧ sz (addSwS S (nI a) (nI b)) 3 = sz S 3 + 1 ∧ (∀ u c, ce (addSwS S (nI a) (nI b)) 2 u c = ce S 2 u c) ∧ ce (addSwS S (nI a) (nI b)) 3 (sz S 3) 0 = nI a ∧ ce (addSwS S (nI a) (nI b)) 3 (sz S 3) 1 = nI b ∧ (addSwS S (nI a) (nI b)).2 = S.2 ∧ (ce S 2 a 3 = 0 ∧ ce S 2 b 3 = 0) := by
  have hB := hV.1.2.1
  obtain ⟨o1, o2, -⟩ := can_1 hB ha hb (fun z => h (Or.inl z))
  have e := addW_eq (a := nI a) (b := nI b) h6
  refine ⟨v_addW hV h6 ha o1 hb o2, fun j hj => ?_, ?_, fun u c => ?_, ?_, ?_, ?_, o1, o2⟩
  · rw [e, addWN, sz_W, sz_W, sz_app, if_neg hj]
  · rw [e, addWN, sz_W, sz_W, sz_app, if_pos rfl]
  · rw [e, addWN, ce_W_ne (by decide), ce_W_ne (by decide), ce_app]
  · rw [e, addWN, ce_W_c (by decide), ce_W_at]
  · rw [e, addWN, ce_W_at]
  · rw [e]; rfl
set_option maxHeartbeats 4000000 in
theorem c_L_proposes (l : Launch) {S : HA} {Hs : List HA} {P : PV} {k a b : Nat} (hJ : J k (S, (Hs, P))) (ha : a < sz S 2) (hb : b < sz S 2)  : LCon l (RL_ 7 0 0 224) yL_proposes cL_proposes 6 [vR (7, 0, 0), vI (nI a), vI (nI b)] ((S, (Hs, P)) : XS) (fun v X' => v = 1 ∧ J (k + 1) X') := by
  refine lcon_of (by decide +kernel) rfl (Nat.le_of_ble_eq_true rfl) (fun B => ?_)
  show GL l (RL_ 7 0 0 224) cL_proposes 6 _ (KM (fun v X' => v = 1 ∧ J (k + 1) X') 0 0) 0 [] B [some (vR (7, 0, 0)), some (vI (nI a)), some (vI (nI b)), none, none, none] [] ((S, (Hs, P)) : XS) 0 0
  generalize hK : KM (fun v X' => v = 1 ∧ J (k + 1) X') 0 0 = K
  have hV : V S (720 * k) := hJ.1
  have hB := hV.1.2.1
  obtain ⟨b0, b1, b2, b3⟩ := id hB
  refine l_blk (pc' := 3) (loc' := [some (vR (7, 0, 0)), some (vI (nI a)), some (vI (nI b)), none, none, none]) (st' := [vI (7 : Int32), vR (7, 0, 0)]) (B' := B) [(0, .aload_n 0), (1, .bipush 7)] (by decide +kernel) rfl rfl ?_
  refine l_callV (nI (sz S 3)) ((S, (Hs, P)) : XS) [vI (7 : Int32)] [] vl_RL_60 mi_X4_count (k_count l (r_count7)) rfl rfl rfl ⟨Nat.le_of_ble_eq_true rfl, Nat.le_of_ble_eq_true rfl⟩ rfl (Nat.le_of_ble_eq_true rfl) ⟨Nat.le_of_ble_eq_true rfl, Nat.le_of_ble_eq_true rfl⟩ (by decide +kernel) ?_
  refine l_blk (pc' := 10) (loc' := [some (vR (7, 0, 0)), some (vI (nI a)), some (vI (nI b)), some (vI (nI (sz S 3))), none, none]) (st' := [vI (3 : Int32), vI (nI a), vR (7, 0, 0)]) (B' := B) [(6, .istore_n 3), (7, .aload_n 0), (8, .iload_n 1), (9, .iconst 3)] (by decide +kernel) rfl rfl ?_
  refine l_callV (ce S 2 a 3) ((S, (Hs, P)) : XS) [vI (nI a), vI (3 : Int32)] [] vl_RL_107 mi_X4_task (k_task l (r_task3 hB (show a < sz S 2 by omega))) rfl rfl rfl ⟨Nat.le_of_ble_eq_true rfl, Nat.le_of_ble_eq_true rfl⟩ rfl (Nat.le_of_ble_eq_true rfl) ⟨Nat.le_of_ble_eq_true rfl, Nat.le_of_ble_eq_true rfl⟩ (by decide +kernel) ?_
  have hm13 : GL l (RL_ 7 0 0 224) cL_proposes 6 (some .boolean) K 45 [] (B) [some (vR (7, 0, 0)), some (vI (nI a)), some (vI (nI b)), some (vI (nI (sz S 3))), none, none] [vI (canS S (nI a) (nI b))] ((S, (Hs, P)) : XS) 0 0 := by
    refine l_blk (pc' := 50) (loc' := [some (vR (7, 0, 0)), some (vI (nI a)), some (vI (nI b)), some (vI (nI (sz S 3))), some (vI (canS S (nI a) (nI b))), some (vI (0 : Int32))]) (st' := []) (B' := B) [(45, .istore 4), (47, .iconst 0), (48, .istore 5)] (by decide +kernel) rfl rfl ?_
    have lp50 : ∀ (k50 i50 : Nat), i50 ≤ sz S 3 → sz S 3 < i50 + k50 → GL l (RL_ 7 0 0 224) cL_proposes 6 (some .boolean) K 50 [] (B) [some (vR (7, 0, 0)), some (vI (nI a)), some (vI (nI b)), some (vI (nI (sz S 3))), some (vI (canD S (nI a) (nI b) (canS S (nI a) (nI b)) i50)), some (vI (nI i50))] [] ((S, (Hs, P)) : XS) 0 0 := by
      intro k50
      induction k50 with
      | zero =>
        intro i50 hi50 hk50
        exact absurd hk50 (by omega)
      | succ k50 ih50 =>
        intro i50 hi50 hk50
        refine l_blk (pc' := 53) (loc' := [some (vR (7, 0, 0)), some (vI (nI a)), some (vI (nI b)), some (vI (nI (sz S 3))), some (vI (canD S (nI a) (nI b) (canS S (nI a) (nI b)) i50)), some (vI (nI i50))]) (st' := [vI (nI (sz S 3)), vI (nI i50)]) (B' := B) [(50, .iload 5), (52, .iload_n 3)] (by decide +kernel) rfl rfl ?_
        refine l_icmp_ge (off := 41) (tgt := 94) (by decide +kernel) (by decide) (fun zc53 => ?_) (fun zc53 => ?_)
        · rw [nI_leI (by omega) (by omega)] at zc53
          obtain rfl : i50 = sz S 3 := by omega
          by_cases hc : canD S (nI a) (nI b) (canS S (nI a) (nI b)) (sz S 3) = 0
          · refine l_blk (pc' := 97) (loc' := [some (vR (7, 0, 0)), some (vI (nI a)), some (vI (nI b)), some (vI (nI (sz S 3))), some (vI (canD S (nI a) (nI b) (canS S (nI a) (nI b)) (sz S 3))), some (vI (nI (sz S 3)))]) (st' := [vI (nI b), vI (nI a), vR (7, 0, 0)]) (B' := B) [(94, .aload_n 0), (95, .iload_n 1), (96, .iload_n 2)] (by decide +kernel) rfl rfl ?_
            refine l_callV (-5 : Int32) ((S, (Hs, P)) : XS) [vI (nI a), vI (nI b)] [] vl_RL_83 mi_X4_propose (k_propose l (x_prop5 hB ha hb ((cd_iff (can01 hB ha hb) _ ).mp hc))) rfl rfl rfl ⟨Nat.le_of_ble_eq_true rfl, Nat.le_of_ble_eq_true rfl⟩ rfl (Nat.le_of_ble_eq_true rfl) ⟨Nat.le_of_ble_eq_true rfl, Nat.le_of_ble_eq_true rfl⟩ (by decide +kernel) ?_
            refine l_blk (pc' := 104) (loc' := [some (vR (7, 0, 0)), some (vI (nI a)), some (vI (nI b)), some (vI (nI (sz S 3))), some (vI (canD S (nI a) (nI b) (canS S (nI a) (nI b)) (sz S 3))), some (vI (-5 : Int32))]) (st' := [vI (canD S (nI a) (nI b) (canS S (nI a) (nI b)) (sz S 3))]) (B' := B) [(100, .istore 5), (102, .iload 4)] (by decide +kernel) rfl rfl ?_
            refine l_if_eq (off := 9) (tgt := 113) (by decide +kernel) (by decide) (fun zc104 => ?_) (fun zc104 => ?_)
            · refine l_blk (pc' := 117) (loc' := [some (vR (7, 0, 0)), some (vI (nI a)), some (vI (nI b)), some (vI (nI (sz S 3))), some (vI (canD S (nI a) (nI b) (canS S (nI a) (nI b)) (sz S 3))), some (vI (-5 : Int32))]) (st' := [vI (canD S (nI a) (nI b) (canS S (nI a) (nI b)) (sz S 3)), vI (-5 : Int32)]) (B' := B) [(113, .iload 5), (115, .iload 4)] (by decide +kernel) rfl rfl ?_
              refine l_if_eq (off := 8) (tgt := 125) (by decide +kernel) (by decide) (fun zc117 => ?_) (fun zc117 => ?_)
              · refine l_blk (pc' := 127) (loc' := [some (vR (7, 0, 0)), some (vI (nI a)), some (vI (nI b)), some (vI (nI (sz S 3))), some (vI (canD S (nI a) (nI b) (canS S (nI a) (nI b)) (sz S 3))), some (vI (-5 : Int32))]) (st' := [vI (-5 : Int32), vI (-5 : Int32)]) (B' := B) [(125, .bipush (-5))] (by decide +kernel) rfl rfl ?_
                refine l_icmp_ne (off := 17) (tgt := 144) (by decide +kernel) (by decide) (fun zc127 => ?_) (fun zc127 => ?_)
                · exact absurd zc127 (by decide)
                · refine l_blk (pc' := 133) (loc' := [some (vR (7, 0, 0)), some (vI (nI a)), some (vI (nI b)), some (vI (nI (sz S 3))), some (vI (canD S (nI a) (nI b) (canS S (nI a) (nI b)) (sz S 3))), some (vI (-5 : Int32))]) (st' := [vI (7 : Int32), vR (7, 0, 0)]) (B' := B) [(130, .aload_n 0), (131, .bipush 7)] (by decide +kernel) rfl rfl ?_
                  refine l_callV (nI (sz S 3)) ((S, (Hs, P)) : XS) [vI (7 : Int32)] [] vl_RL_60 mi_X4_count (k_count l (r_count7)) rfl rfl rfl ⟨Nat.le_of_ble_eq_true rfl, Nat.le_of_ble_eq_true rfl⟩ rfl (Nat.le_of_ble_eq_true rfl) ⟨Nat.le_of_ble_eq_true rfl, Nat.le_of_ble_eq_true rfl⟩ (by decide +kernel) ?_
                  refine l_blk (pc' := 137) (loc' := [some (vR (7, 0, 0)), some (vI (nI a)), some (vI (nI b)), some (vI (nI (sz S 3))), some (vI (canD S (nI a) (nI b) (canS S (nI a) (nI b)) (sz S 3))), some (vI (-5 : Int32))]) (st' := [vI (nI (sz S 3)), vI (nI (sz S 3))]) (B' := B) [(136, .iload_n 3)] (by decide +kernel) rfl rfl ?_
                  refine l_icmp_ne (off := 7) (tgt := 144) (by decide +kernel) (by decide) (fun zc137 => ?_) (fun zc137 => ?_)
                  · exact absurd rfl zc137
                  · refine l_blk (pc' := 145) (loc' := [some (vR (7, 0, 0)), some (vI (nI a)), some (vI (nI b)), some (vI (nI (sz S 3))), some (vI (canD S (nI a) (nI b) (canS S (nI a) (nI b)) (sz S 3))), some (vI (-5 : Int32))]) (st' := [vI (1 : Int32)]) (B' := B) [(140, .iconst 1), (141, .goto 4)] (by decide +kernel) rfl rfl ?_
                    subst hK
                    exact l_zret ⟨Nat.le_of_ble_eq_true rfl, Nat.le_of_ble_eq_true rfl⟩ (Or.inr rfl) (⟨rfl, hJ.up⟩) (by decide +kernel)
              · exact absurd (hc) zc117
            · exact absurd (hc) zc104
          · by_cases h6 : sz S 3 = 6
            · refine l_blk (pc' := 97) (loc' := [some (vR (7, 0, 0)), some (vI (nI a)), some (vI (nI b)), some (vI (nI (sz S 3))), some (vI (canD S (nI a) (nI b) (canS S (nI a) (nI b)) (sz S 3))), some (vI (nI (sz S 3)))]) (st' := [vI (nI b), vI (nI a), vR (7, 0, 0)]) (B' := B) [(94, .aload_n 0), (95, .iload_n 1), (96, .iload_n 2)] (by decide +kernel) rfl rfl ?_
              refine l_callV (-4 : Int32) ((S, (Hs, P)) : XS) [vI (nI a), vI (nI b)] [] vl_RL_83 mi_X4_propose (k_propose l (x_prop4 hB ha hb (fun z => hc ((cd_iff (can01 hB ha hb) _).mpr z)) h6)) rfl rfl rfl ⟨Nat.le_of_ble_eq_true rfl, Nat.le_of_ble_eq_true rfl⟩ rfl (Nat.le_of_ble_eq_true rfl) ⟨Nat.le_of_ble_eq_true rfl, Nat.le_of_ble_eq_true rfl⟩ (by decide +kernel) ?_
              refine l_blk (pc' := 104) (loc' := [some (vR (7, 0, 0)), some (vI (nI a)), some (vI (nI b)), some (vI (nI (sz S 3))), some (vI (canD S (nI a) (nI b) (canS S (nI a) (nI b)) (sz S 3))), some (vI (-4 : Int32))]) (st' := [vI (canD S (nI a) (nI b) (canS S (nI a) (nI b)) (sz S 3))]) (B' := B) [(100, .istore 5), (102, .iload 4)] (by decide +kernel) rfl rfl ?_
              refine l_if_eq (off := 9) (tgt := 113) (by decide +kernel) (by decide) (fun zc104 => ?_) (fun zc104 => ?_)
              · exact absurd zc104 (hc)
              · refine l_blk (pc' := 110) (loc' := [some (vR (7, 0, 0)), some (vI (nI a)), some (vI (nI b)), some (vI (nI (sz S 3))), some (vI (canD S (nI a) (nI b) (canS S (nI a) (nI b)) (sz S 3))), some (vI (-4 : Int32))]) (st' := [vI (6 : Int32), vI (nI (sz S 3))]) (B' := B) [(107, .iload_n 3), (108, .bipush 6)] (by decide +kernel) rfl rfl ?_
                refine l_icmp_ne (off := 36) (tgt := 146) (by decide +kernel) (by decide) (fun zc110 => ?_) (fun zc110 => ?_)
                · exact absurd zc110 (not_not_intro (by rw [h6]; rfl))
                · refine l_blk (pc' := 117) (loc' := [some (vR (7, 0, 0)), some (vI (nI a)), some (vI (nI b)), some (vI (nI (sz S 3))), some (vI (canD S (nI a) (nI b) (canS S (nI a) (nI b)) (sz S 3))), some (vI (-4 : Int32))]) (st' := [vI (canD S (nI a) (nI b) (canS S (nI a) (nI b)) (sz S 3)), vI (-4 : Int32)]) (B' := B) [(113, .iload 5), (115, .iload 4)] (by decide +kernel) rfl rfl ?_
                  refine l_if_eq (off := 8) (tgt := 125) (by decide +kernel) (by decide) (fun zc117 => ?_) (fun zc117 => ?_)
                  · exact absurd zc117 (hc)
                  · refine l_blk (pc' := 127) (loc' := [some (vR (7, 0, 0)), some (vI (nI a)), some (vI (nI b)), some (vI (nI (sz S 3))), some (vI (canD S (nI a) (nI b) (canS S (nI a) (nI b)) (sz S 3))), some (vI (-4 : Int32))]) (st' := [vI (-4 : Int32), vI (-4 : Int32)]) (B' := B) [(120, .bipush (-4)), (122, .goto 5)] (by decide +kernel) rfl rfl ?_
                    refine l_icmp_ne (off := 17) (tgt := 144) (by decide +kernel) (by decide) (fun zc127 => ?_) (fun zc127 => ?_)
                    · exact absurd zc127 (by decide)
                    · refine l_blk (pc' := 133) (loc' := [some (vR (7, 0, 0)), some (vI (nI a)), some (vI (nI b)), some (vI (nI (sz S 3))), some (vI (canD S (nI a) (nI b) (canS S (nI a) (nI b)) (sz S 3))), some (vI (-4 : Int32))]) (st' := [vI (7 : Int32), vR (7, 0, 0)]) (B' := B) [(130, .aload_n 0), (131, .bipush 7)] (by decide +kernel) rfl rfl ?_
                      refine l_callV (nI (sz S 3)) ((S, (Hs, P)) : XS) [vI (7 : Int32)] [] vl_RL_60 mi_X4_count (k_count l (r_count7)) rfl rfl rfl ⟨Nat.le_of_ble_eq_true rfl, Nat.le_of_ble_eq_true rfl⟩ rfl (Nat.le_of_ble_eq_true rfl) ⟨Nat.le_of_ble_eq_true rfl, Nat.le_of_ble_eq_true rfl⟩ (by decide +kernel) ?_
                      refine l_blk (pc' := 137) (loc' := [some (vR (7, 0, 0)), some (vI (nI a)), some (vI (nI b)), some (vI (nI (sz S 3))), some (vI (canD S (nI a) (nI b) (canS S (nI a) (nI b)) (sz S 3))), some (vI (-4 : Int32))]) (st' := [vI (nI (sz S 3)), vI (nI (sz S 3))]) (B' := B) [(136, .iload_n 3)] (by decide +kernel) rfl rfl ?_
                      refine l_icmp_ne (off := 7) (tgt := 144) (by decide +kernel) (by decide) (fun zc137 => ?_) (fun zc137 => ?_)
                      · exact absurd rfl zc137
                      · refine l_blk (pc' := 145) (loc' := [some (vR (7, 0, 0)), some (vI (nI a)), some (vI (nI b)), some (vI (nI (sz S 3))), some (vI (canD S (nI a) (nI b) (canS S (nI a) (nI b)) (sz S 3))), some (vI (-4 : Int32))]) (st' := [vI (1 : Int32)]) (B' := B) [(140, .iconst 1), (141, .goto 4)] (by decide +kernel) rfl rfl ?_
                        subst hK
                        exact l_zret ⟨Nat.le_of_ble_eq_true rfl, Nat.le_of_ble_eq_true rfl⟩ (Or.inr rfl) (⟨rfl, hJ.up⟩) (by decide +kernel)
            · refine l_blk (pc' := 97) (loc' := [some (vR (7, 0, 0)), some (vI (nI a)), some (vI (nI b)), some (vI (nI (sz S 3))), some (vI (canD S (nI a) (nI b) (canS S (nI a) (nI b)) (sz S 3))), some (vI (nI (sz S 3)))]) (st' := [vI (nI b), vI (nI a), vR (7, 0, 0)]) (B' := B) [(94, .aload_n 0), (95, .iload_n 1), (96, .iload_n 2)] (by decide +kernel) rfl rfl ?_
              have hno := fun z => hc ((cd_iff (can01 hB ha hb) (sz S 3)).mpr z)
              obtain ⟨V1, z1, z3, c1, w0, w1, q1, ho⟩ := prop_facts hV ha hb hno (show sz S 3 < 6 by omega)
              have hx := x_prop1 (Hs := Hs) (P := P) hB ha hb hno (show sz S 3 < 6 by omega)
              obtain ⟨S1, hS1⟩ : ∃ S1, addSwS S (nI a) (nI b) = S1 := ⟨_, rfl⟩
              rw [hS1] at V1 z1 z3 c1 w0 w1 q1 hx
              have hB1 := V1.1.2.1
              have s0 := z1 0 (by decide)
              have s1 := z1 1 (by decide)
              have s2 := z1 2 (by decide)
              refine l_callV ((nI (sz S 3)) + (1 : Int32)) ((S1, (keepL Hs S, P)) : XS) [vI (nI a), vI (nI b)] [] vl_RL_83 mi_X4_propose (k_propose l (hx)) rfl rfl rfl ⟨Nat.le_of_ble_eq_true rfl, Nat.le_of_ble_eq_true rfl⟩ rfl (Nat.le_of_ble_eq_true rfl) ⟨Nat.le_of_ble_eq_true rfl, Nat.le_of_ble_eq_true rfl⟩ (by decide +kernel) ?_
              refine l_blk (pc' := 104) (loc' := [some (vR (7, 0, 0)), some (vI (nI a)), some (vI (nI b)), some (vI (nI (sz S 3))), some (vI (canD S (nI a) (nI b) (canS S (nI a) (nI b)) (sz S 3))), some (vI ((nI (sz S 3)) + (1 : Int32)))]) (st' := [vI (canD S (nI a) (nI b) (canS S (nI a) (nI b)) (sz S 3))]) (B' := B) [(100, .istore 5), (102, .iload 4)] (by decide +kernel) rfl rfl ?_
              refine l_if_eq (off := 9) (tgt := 113) (by decide +kernel) (by decide) (fun zc104 => ?_) (fun zc104 => ?_)
              · exact absurd zc104 (hc)
              · refine l_blk (pc' := 110) (loc' := [some (vR (7, 0, 0)), some (vI (nI a)), some (vI (nI b)), some (vI (nI (sz S 3))), some (vI (canD S (nI a) (nI b) (canS S (nI a) (nI b)) (sz S 3))), some (vI ((nI (sz S 3)) + (1 : Int32)))]) (st' := [vI (6 : Int32), vI (nI (sz S 3))]) (B' := B) [(107, .iload_n 3), (108, .bipush 6)] (by decide +kernel) rfl rfl ?_
                refine l_icmp_ne (off := 36) (tgt := 146) (by decide +kernel) (by decide) (fun zc110 => ?_) (fun zc110 => ?_)
                · refine l_blk (pc' := 151) (loc' := [some (vR (7, 0, 0)), some (vI (nI a)), some (vI (nI b)), some (vI (nI (sz S 3))), some (vI (canD S (nI a) (nI b) (canS S (nI a) (nI b)) (sz S 3))), some (vI ((nI (sz S 3)) + (1 : Int32)))]) (st' := [vI ((nI (sz S 3)) + (1 : Int32)), vI ((nI (sz S 3)) + (1 : Int32))]) (B' := B) [(146, .iload 5), (148, .iload_n 3), (149, .iconst 1), (150, .iadd)] (by decide +kernel) rfl rfl ?_
                  refine l_icmp_ne (off := 68) (tgt := 219) (by decide +kernel) (by decide) (fun zc151 => ?_) (fun zc151 => ?_)
                  · exact absurd rfl zc151
                  · refine l_blk (pc' := 157) (loc' := [some (vR (7, 0, 0)), some (vI (nI a)), some (vI (nI b)), some (vI (nI (sz S 3))), some (vI (canD S (nI a) (nI b) (canS S (nI a) (nI b)) (sz S 3))), some (vI ((nI (sz S 3)) + (1 : Int32)))]) (st' := [vI (0 : Int32), vI (nI (sz S 3)), vR (7, 0, 0)]) (B' := B) [(154, .aload_n 0), (155, .iload_n 3), (156, .iconst 0)] (by decide +kernel) rfl rfl ?_
                    refine l_callV (nI a) ((S1, (keepL Hs S, P)) : XS) [vI (nI (sz S 3)), vI (0 : Int32)] [] vl_RL_110 mi_X4_swap (k_swap l ((r_swap0 hB1 (show sz S 3 < sz S1 3 by omega)).trans (w0))) rfl rfl rfl ⟨Nat.le_of_ble_eq_true rfl, Nat.le_of_ble_eq_true rfl⟩ rfl (Nat.le_of_ble_eq_true rfl) ⟨Nat.le_of_ble_eq_true rfl, Nat.le_of_ble_eq_true rfl⟩ (by decide +kernel) ?_
                    refine l_blk (pc' := 161) (loc' := [some (vR (7, 0, 0)), some (vI (nI a)), some (vI (nI b)), some (vI (nI (sz S 3))), some (vI (canD S (nI a) (nI b) (canS S (nI a) (nI b)) (sz S 3))), some (vI ((nI (sz S 3)) + (1 : Int32)))]) (st' := [vI (nI a), vI (nI a)]) (B' := B) [(160, .iload_n 1)] (by decide +kernel) rfl rfl ?_
                    refine l_icmp_ne (off := 58) (tgt := 219) (by decide +kernel) (by decide) (fun zc161 => ?_) (fun zc161 => ?_)
                    · exact absurd rfl zc161
                    · refine l_blk (pc' := 167) (loc' := [some (vR (7, 0, 0)), some (vI (nI a)), some (vI (nI b)), some (vI (nI (sz S 3))), some (vI (canD S (nI a) (nI b) (canS S (nI a) (nI b)) (sz S 3))), some (vI ((nI (sz S 3)) + (1 : Int32)))]) (st' := [vI (1 : Int32), vI (nI (sz S 3)), vR (7, 0, 0)]) (B' := B) [(164, .aload_n 0), (165, .iload_n 3), (166, .iconst 1)] (by decide +kernel) rfl rfl ?_
                      refine l_callV (nI b) ((S1, (keepL Hs S, P)) : XS) [vI (nI (sz S 3)), vI (1 : Int32)] [] vl_RL_110 mi_X4_swap (k_swap l ((r_swap1 hB1 (show sz S 3 < sz S1 3 by omega)).trans (w1))) rfl rfl rfl ⟨Nat.le_of_ble_eq_true rfl, Nat.le_of_ble_eq_true rfl⟩ rfl (Nat.le_of_ble_eq_true rfl) ⟨Nat.le_of_ble_eq_true rfl, Nat.le_of_ble_eq_true rfl⟩ (by decide +kernel) ?_
                      refine l_blk (pc' := 171) (loc' := [some (vR (7, 0, 0)), some (vI (nI a)), some (vI (nI b)), some (vI (nI (sz S 3))), some (vI (canD S (nI a) (nI b) (canS S (nI a) (nI b)) (sz S 3))), some (vI ((nI (sz S 3)) + (1 : Int32)))]) (st' := [vI (nI b), vI (nI b)]) (B' := B) [(170, .iload_n 2)] (by decide +kernel) rfl rfl ?_
                      refine l_icmp_ne (off := 48) (tgt := 219) (by decide +kernel) (by decide) (fun zc171 => ?_) (fun zc171 => ?_)
                      · exact absurd rfl zc171
                      · refine l_blk (pc' := 177) (loc' := [some (vR (7, 0, 0)), some (vI (nI a)), some (vI (nI b)), some (vI (nI (sz S 3))), some (vI (canD S (nI a) (nI b) (canS S (nI a) (nI b)) (sz S 3))), some (vI ((nI (sz S 3)) + (1 : Int32)))]) (st' := [vI (2 : Int32), vI (nI (sz S 3)), vR (7, 0, 0)]) (B' := B) [(174, .aload_n 0), (175, .iload_n 3), (176, .iconst 2)] (by decide +kernel) rfl rfl ?_
                        refine l_callV (ce S1 2 a 1) ((S1, (keepL Hs S, P)) : XS) [vI (nI (sz S 3)), vI (2 : Int32)] [] vl_RL_110 mi_X4_swap (k_swap l ((r_swap2 hB1 (show sz S 3 < sz S1 3 by omega)).trans (by rw [w0, cl1 (by omega)]))) rfl rfl rfl ⟨Nat.le_of_ble_eq_true rfl, Nat.le_of_ble_eq_true rfl⟩ rfl (Nat.le_of_ble_eq_true rfl) ⟨Nat.le_of_ble_eq_true rfl, Nat.le_of_ble_eq_true rfl⟩ (by decide +kernel) ?_
                        refine l_blk (pc' := 183) (loc' := [some (vR (7, 0, 0)), some (vI (nI a)), some (vI (nI b)), some (vI (nI (sz S 3))), some (vI (canD S (nI a) (nI b) (canS S (nI a) (nI b)) (sz S 3))), some (vI ((nI (sz S 3)) + (1 : Int32)))]) (st' := [vI (1 : Int32), vI (nI a), vR (7, 0, 0), vI (ce S1 2 a 1)]) (B' := B) [(180, .aload_n 0), (181, .iload_n 1), (182, .iconst 1)] (by decide +kernel) rfl rfl ?_
                        refine l_callV (ce S1 2 a 1) ((S1, (keepL Hs S, P)) : XS) [vI (nI a), vI (1 : Int32)] [vI (ce S1 2 a 1)] vl_RL_107 mi_X4_task (k_task l (r_task1 hB1 (show a < sz S1 2 by omega))) rfl rfl rfl ⟨Nat.le_of_ble_eq_true rfl, Nat.le_of_ble_eq_true rfl⟩ rfl (Nat.le_of_ble_eq_true rfl) ⟨Nat.le_of_ble_eq_true rfl, Nat.le_of_ble_eq_true rfl⟩ (by decide +kernel) ?_
                        refine l_icmp_ne (off := 33) (tgt := 219) (by decide +kernel) (by decide) (fun zc186 => ?_) (fun zc186 => ?_)
                        · exact absurd rfl zc186
                        · refine l_blk (pc' := 192) (loc' := [some (vR (7, 0, 0)), some (vI (nI a)), some (vI (nI b)), some (vI (nI (sz S 3))), some (vI (canD S (nI a) (nI b) (canS S (nI a) (nI b)) (sz S 3))), some (vI ((nI (sz S 3)) + (1 : Int32)))]) (st' := [vI (3 : Int32), vI (nI (sz S 3)), vR (7, 0, 0)]) (B' := B) [(189, .aload_n 0), (190, .iload_n 3), (191, .iconst 3)] (by decide +kernel) rfl rfl ?_
                          refine l_callV (ce S1 2 b 1) ((S1, (keepL Hs S, P)) : XS) [vI (nI (sz S 3)), vI (3 : Int32)] [] vl_RL_110 mi_X4_swap (k_swap l ((r_swap3 hB1 (show sz S 3 < sz S1 3 by omega)).trans (by rw [w1, cl1 (by omega)]))) rfl rfl rfl ⟨Nat.le_of_ble_eq_true rfl, Nat.le_of_ble_eq_true rfl⟩ rfl (Nat.le_of_ble_eq_true rfl) ⟨Nat.le_of_ble_eq_true rfl, Nat.le_of_ble_eq_true rfl⟩ (by decide +kernel) ?_
                          refine l_blk (pc' := 198) (loc' := [some (vR (7, 0, 0)), some (vI (nI a)), some (vI (nI b)), some (vI (nI (sz S 3))), some (vI (canD S (nI a) (nI b) (canS S (nI a) (nI b)) (sz S 3))), some (vI ((nI (sz S 3)) + (1 : Int32)))]) (st' := [vI (1 : Int32), vI (nI b), vR (7, 0, 0), vI (ce S1 2 b 1)]) (B' := B) [(195, .aload_n 0), (196, .iload_n 2), (197, .iconst 1)] (by decide +kernel) rfl rfl ?_
                          refine l_callV (ce S1 2 b 1) ((S1, (keepL Hs S, P)) : XS) [vI (nI b), vI (1 : Int32)] [vI (ce S1 2 b 1)] vl_RL_107 mi_X4_task (k_task l (r_task1 hB1 (show b < sz S1 2 by omega))) rfl rfl rfl ⟨Nat.le_of_ble_eq_true rfl, Nat.le_of_ble_eq_true rfl⟩ rfl (Nat.le_of_ble_eq_true rfl) ⟨Nat.le_of_ble_eq_true rfl, Nat.le_of_ble_eq_true rfl⟩ (by decide +kernel) ?_
                          refine l_icmp_ne (off := 18) (tgt := 219) (by decide +kernel) (by decide) (fun zc201 => ?_) (fun zc201 => ?_)
                          · exact absurd rfl zc201
                          · refine l_blk (pc' := 207) (loc' := [some (vR (7, 0, 0)), some (vI (nI a)), some (vI (nI b)), some (vI (nI (sz S 3))), some (vI (canD S (nI a) (nI b) (canS S (nI a) (nI b)) (sz S 3))), some (vI ((nI (sz S 3)) + (1 : Int32)))]) (st' := [vI (nI b), vI (nI a), vR (7, 0, 0)]) (B' := B) [(204, .aload_n 0), (205, .iload_n 1), (206, .iload_n 2)] (by decide +kernel) rfl rfl ?_
                            refine l_callV (-5 : Int32) ((S1, (keepL Hs S, P)) : XS) [vI (nI a), vI (nI b)] [] vl_RL_83 mi_X4_propose (k_propose l (x_prop5 hB1 (show a < sz S1 2 by omega) (show b < sz S1 2 by omega) (Or.inr ⟨sz S 3, (show sz S 3 < sz S1 3 by omega), w0, w1⟩))) rfl rfl rfl ⟨Nat.le_of_ble_eq_true rfl, Nat.le_of_ble_eq_true rfl⟩ rfl (Nat.le_of_ble_eq_true rfl) ⟨Nat.le_of_ble_eq_true rfl, Nat.le_of_ble_eq_true rfl⟩ (by decide +kernel) ?_
                            refine l_blk (pc' := 212) (loc' := [some (vR (7, 0, 0)), some (vI (nI a)), some (vI (nI b)), some (vI (nI (sz S 3))), some (vI (canD S (nI a) (nI b) (canS S (nI a) (nI b)) (sz S 3))), some (vI ((nI (sz S 3)) + (1 : Int32)))]) (st' := [vI (-5 : Int32), vI (-5 : Int32)]) (B' := B) [(210, .bipush (-5))] (by decide +kernel) rfl rfl ?_
                            refine l_icmp_ne (off := 7) (tgt := 219) (by decide +kernel) (by decide) (fun zc212 => ?_) (fun zc212 => ?_)
                            · exact absurd zc212 (by decide)
                            · refine l_blk (pc' := 220) (loc' := [some (vR (7, 0, 0)), some (vI (nI a)), some (vI (nI b)), some (vI (nI (sz S 3))), some (vI (canD S (nI a) (nI b) (canS S (nI a) (nI b)) (sz S 3))), some (vI ((nI (sz S 3)) + (1 : Int32)))]) (st' := [vI (1 : Int32)]) (B' := B) [(215, .iconst 1), (216, .goto 4)] (by decide +kernel) rfl rfl ?_
                              subst hK
                              exact l_zret ⟨Nat.le_of_ble_eq_true rfl, Nat.le_of_ble_eq_true rfl⟩ (Or.inr rfl) (⟨rfl, hJ.of (V1.le (by omega)) s0 s1 (congrFun q1 5)⟩) (by decide +kernel)
                · exact absurd zc110 (fun z => h6 ((nI_eq (b := 6) (by omega) (by decide)).mp z))
        · rw [nI_leI (by omega) (by omega)] at zc53
          refine l_blk (pc' := 62) (loc' := [some (vR (7, 0, 0)), some (vI (nI a)), some (vI (nI b)), some (vI (nI (sz S 3))), some (vI (canD S (nI a) (nI b) (canS S (nI a) (nI b)) i50)), some (vI (nI i50))]) (st' := [vI (0 : Int32), vI (nI i50), vR (7, 0, 0), vI (canD S (nI a) (nI b) (canS S (nI a) (nI b)) i50)]) (B' := B) [(56, .iload 4), (58, .aload_n 0), (59, .iload 5), (61, .iconst 0)] (by decide +kernel) rfl rfl ?_
          refine l_callV (ce S 3 i50 0) ((S, (Hs, P)) : XS) [vI (nI i50), vI (0 : Int32)] [vI (canD S (nI a) (nI b) (canS S (nI a) (nI b)) i50)] vl_RL_110 mi_X4_swap (k_swap l (r_swap0 hB (show i50 < sz S 3 by omega))) rfl rfl rfl ⟨Nat.le_of_ble_eq_true rfl, Nat.le_of_ble_eq_true rfl⟩ rfl (Nat.le_of_ble_eq_true rfl) ⟨Nat.le_of_ble_eq_true rfl, Nat.le_of_ble_eq_true rfl⟩ (by decide +kernel) ?_
          refine l_blk (pc' := 66) (loc' := [some (vR (7, 0, 0)), some (vI (nI a)), some (vI (nI b)), some (vI (nI (sz S 3))), some (vI (canD S (nI a) (nI b) (canS S (nI a) (nI b)) i50)), some (vI (nI i50))]) (st' := [vI (nI a), vI (ce S 3 i50 0), vI (canD S (nI a) (nI b) (canS S (nI a) (nI b)) i50)]) (B' := B) [(65, .iload_n 1)] (by decide +kernel) rfl rfl ?_
          refine l_icmp_ne (off := 14) (tgt := 80) (by decide +kernel) (by decide) (fun zc66 => ?_) (fun zc66 => ?_)
          · refine l_blk (pc' := 50) (loc' := [some (vR (7, 0, 0)), some (vI (nI a)), some (vI (nI b)), some (vI (nI (sz S 3))), some (vI ((canD S (nI a) (nI b) (canS S (nI a) (nI b)) i50) &&& (1 : Int32))), some (vI ((nI i50) + (1 : Int32)))]) (st' := []) (B' := B) [(80, .iconst 1), (81, .goto 4), (85, .iand), (86, .istore 4), (88, .iinc 5 1), (91, .goto (-41))] (by decide +kernel) rfl rfl ?_
            exact l_sub (loc' := [some (vR (7, 0, 0)), some (vI (nI a)), some (vI (nI b)), some (vI (nI (sz S 3))), some (vI (canD S (nI a) (nI b) (canS S (nI a) (nI b)) (i50 + 1))), some (vI (nI (i50 + 1)))]) ⟨Or.inr rfl, ⟨Or.inr rfl, ⟨Or.inr rfl, ⟨Or.inr rfl, ⟨Or.inr (congrArg (fun z => some (vI z)) (cd_0 (can01 hB ha hb) zc66)), ⟨Or.inr (congrArg (fun z => some (vI z)) (nI_1 _).symm), trivial⟩⟩⟩⟩⟩⟩ (ih50 (i50 + 1) (by omega) (by omega))
          · refine l_blk (pc' := 73) (loc' := [some (vR (7, 0, 0)), some (vI (nI a)), some (vI (nI b)), some (vI (nI (sz S 3))), some (vI (canD S (nI a) (nI b) (canS S (nI a) (nI b)) i50)), some (vI (nI i50))]) (st' := [vI (1 : Int32), vI (nI i50), vR (7, 0, 0), vI (canD S (nI a) (nI b) (canS S (nI a) (nI b)) i50)]) (B' := B) [(69, .aload_n 0), (70, .iload 5), (72, .iconst 1)] (by decide +kernel) rfl rfl ?_
            refine l_callV (ce S 3 i50 1) ((S, (Hs, P)) : XS) [vI (nI i50), vI (1 : Int32)] [vI (canD S (nI a) (nI b) (canS S (nI a) (nI b)) i50)] vl_RL_110 mi_X4_swap (k_swap l (r_swap1 hB (show i50 < sz S 3 by omega))) rfl rfl rfl ⟨Nat.le_of_ble_eq_true rfl, Nat.le_of_ble_eq_true rfl⟩ rfl (Nat.le_of_ble_eq_true rfl) ⟨Nat.le_of_ble_eq_true rfl, Nat.le_of_ble_eq_true rfl⟩ (by decide +kernel) ?_
            refine l_blk (pc' := 77) (loc' := [some (vR (7, 0, 0)), some (vI (nI a)), some (vI (nI b)), some (vI (nI (sz S 3))), some (vI (canD S (nI a) (nI b) (canS S (nI a) (nI b)) i50)), some (vI (nI i50))]) (st' := [vI (nI b), vI (ce S 3 i50 1), vI (canD S (nI a) (nI b) (canS S (nI a) (nI b)) i50)]) (B' := B) [(76, .iload_n 2)] (by decide +kernel) rfl rfl ?_
            refine l_icmp_eq (off := 7) (tgt := 84) (by decide +kernel) (by decide) (fun zc77 => ?_) (fun zc77 => ?_)
            · refine l_blk (pc' := 50) (loc' := [some (vR (7, 0, 0)), some (vI (nI a)), some (vI (nI b)), some (vI (nI (sz S 3))), some (vI ((canD S (nI a) (nI b) (canS S (nI a) (nI b)) i50) &&& (0 : Int32))), some (vI ((nI i50) + (1 : Int32)))]) (st' := []) (B' := B) [(84, .iconst 0), (85, .iand), (86, .istore 4), (88, .iinc 5 1), (91, .goto (-41))] (by decide +kernel) rfl rfl ?_
              exact l_sub (loc' := [some (vR (7, 0, 0)), some (vI (nI a)), some (vI (nI b)), some (vI (nI (sz S 3))), some (vI (canD S (nI a) (nI b) (canS S (nI a) (nI b)) (i50 + 1))), some (vI (nI (i50 + 1)))]) ⟨Or.inr rfl, ⟨Or.inr rfl, ⟨Or.inr rfl, ⟨Or.inr rfl, ⟨Or.inr (congrArg (fun z => some (vI z)) (cd_2 (can01 hB ha hb) zc66 zc77)), ⟨Or.inr (congrArg (fun z => some (vI z)) (nI_1 _).symm), trivial⟩⟩⟩⟩⟩⟩ (ih50 (i50 + 1) (by omega) (by omega))
            · refine l_blk (pc' := 50) (loc' := [some (vR (7, 0, 0)), some (vI (nI a)), some (vI (nI b)), some (vI (nI (sz S 3))), some (vI ((canD S (nI a) (nI b) (canS S (nI a) (nI b)) i50) &&& (1 : Int32))), some (vI ((nI i50) + (1 : Int32)))]) (st' := []) (B' := B) [(80, .iconst 1), (81, .goto 4), (85, .iand), (86, .istore 4), (88, .iinc 5 1), (91, .goto (-41))] (by decide +kernel) rfl rfl ?_
              exact l_sub (loc' := [some (vR (7, 0, 0)), some (vI (nI a)), some (vI (nI b)), some (vI (nI (sz S 3))), some (vI (canD S (nI a) (nI b) (canS S (nI a) (nI b)) (i50 + 1))), some (vI (nI (i50 + 1)))]) ⟨Or.inr rfl, ⟨Or.inr rfl, ⟨Or.inr rfl, ⟨Or.inr rfl, ⟨Or.inr (congrArg (fun z => some (vI z)) (cd_1 (can01 hB ha hb) zc66 zc77)), ⟨Or.inr (congrArg (fun z => some (vI z)) (nI_1 _).symm), trivial⟩⟩⟩⟩⟩⟩ (ih50 (i50 + 1) (by omega) (by omega))
    exact l_sub (loc' := [some (vR (7, 0, 0)), some (vI (nI a)), some (vI (nI b)), some (vI (nI (sz S 3))), some (vI (canD S (nI a) (nI b) (canS S (nI a) (nI b)) 0)), some (vI (nI 0))]) ⟨Or.inr rfl, ⟨Or.inr rfl, ⟨Or.inr rfl, ⟨Or.inr rfl, ⟨Or.inr rfl, ⟨Or.inr rfl, trivial⟩⟩⟩⟩⟩⟩ (lp50 (sz S 3 + 1) 0 (by omega) (by omega))
  refine l_if_ne (off := 31) (tgt := 44) (by decide +kernel) (by decide) (fun zc13 => ?_) (fun zc13 => ?_)
  · refine l_blk (pc' := 45) (loc' := [some (vR (7, 0, 0)), some (vI (nI a)), some (vI (nI b)), some (vI (nI (sz S 3))), none, none]) (st' := [vI (0 : Int32)]) (B' := B) [(44, .iconst 0)] (by decide +kernel) rfl rfl ?_
    exact l_st (((can_n hB ha hb).trans (if_pos zc13)).symm) hm13
  · refine l_blk (pc' := 19) (loc' := [some (vR (7, 0, 0)), some (vI (nI a)), some (vI (nI b)), some (vI (nI (sz S 3))), none, none]) (st' := [vI (3 : Int32), vI (nI b), vR (7, 0, 0)]) (B' := B) [(16, .aload_n 0), (17, .iload_n 2), (18, .iconst 3)] (by decide +kernel) rfl rfl ?_
    refine l_callV (ce S 2 b 3) ((S, (Hs, P)) : XS) [vI (nI b), vI (3 : Int32)] [] vl_RL_107 mi_X4_task (k_task l (r_task3 hB (show b < sz S 2 by omega))) rfl rfl rfl ⟨Nat.le_of_ble_eq_true rfl, Nat.le_of_ble_eq_true rfl⟩ rfl (Nat.le_of_ble_eq_true rfl) ⟨Nat.le_of_ble_eq_true rfl, Nat.le_of_ble_eq_true rfl⟩ (by decide +kernel) ?_
    refine l_if_ne (off := 22) (tgt := 44) (by decide +kernel) (by decide) (fun zc22 => ?_) (fun zc22 => ?_)
    · refine l_blk (pc' := 45) (loc' := [some (vR (7, 0, 0)), some (vI (nI a)), some (vI (nI b)), some (vI (nI (sz S 3))), none, none]) (st' := [vI (0 : Int32)]) (B' := B) [(44, .iconst 0)] (by decide +kernel) rfl rfl ?_
      exact l_st (((can_n hB ha hb).trans ((if_neg (not_not_intro zc13)).trans (if_pos zc22))).symm) hm13
    · refine l_blk (pc' := 28) (loc' := [some (vR (7, 0, 0)), some (vI (nI a)), some (vI (nI b)), some (vI (nI (sz S 3))), none, none]) (st' := [vI (1 : Int32), vI (nI a), vR (7, 0, 0)]) (B' := B) [(25, .aload_n 0), (26, .iload_n 1), (27, .iconst 1)] (by decide +kernel) rfl rfl ?_
      refine l_callV (ce S 2 a 1) ((S, (Hs, P)) : XS) [vI (nI a), vI (1 : Int32)] [] vl_RL_107 mi_X4_task (k_task l (r_task1 hB (show a < sz S 2 by omega))) rfl rfl rfl ⟨Nat.le_of_ble_eq_true rfl, Nat.le_of_ble_eq_true rfl⟩ rfl (Nat.le_of_ble_eq_true rfl) ⟨Nat.le_of_ble_eq_true rfl, Nat.le_of_ble_eq_true rfl⟩ (by decide +kernel) ?_
      refine l_blk (pc' := 34) (loc' := [some (vR (7, 0, 0)), some (vI (nI a)), some (vI (nI b)), some (vI (nI (sz S 3))), none, none]) (st' := [vI (1 : Int32), vI (nI b), vR (7, 0, 0), vI (ce S 2 a 1)]) (B' := B) [(31, .aload_n 0), (32, .iload_n 2), (33, .iconst 1)] (by decide +kernel) rfl rfl ?_
      refine l_callV (ce S 2 b 1) ((S, (Hs, P)) : XS) [vI (nI b), vI (1 : Int32)] [vI (ce S 2 a 1)] vl_RL_107 mi_X4_task (k_task l (r_task1 hB (show b < sz S 2 by omega))) rfl rfl rfl ⟨Nat.le_of_ble_eq_true rfl, Nat.le_of_ble_eq_true rfl⟩ rfl (Nat.le_of_ble_eq_true rfl) ⟨Nat.le_of_ble_eq_true rfl, Nat.le_of_ble_eq_true rfl⟩ (by decide +kernel) ?_
      refine l_icmp_eq (off := 7) (tgt := 44) (by decide +kernel) (by decide) (fun zc37 => ?_) (fun zc37 => ?_)
      · refine l_blk (pc' := 45) (loc' := [some (vR (7, 0, 0)), some (vI (nI a)), some (vI (nI b)), some (vI (nI (sz S 3))), none, none]) (st' := [vI (0 : Int32)]) (B' := B) [(44, .iconst 0)] (by decide +kernel) rfl rfl ?_
        exact l_st (((can_n hB ha hb).trans ((if_neg (not_not_intro zc13)).trans ((if_neg (not_not_intro zc22)).trans (if_pos zc37)))).symm) hm13
      · refine l_blk (pc' := 45) (loc' := [some (vR (7, 0, 0)), some (vI (nI a)), some (vI (nI b)), some (vI (nI (sz S 3))), none, none]) (st' := [vI (1 : Int32)]) (B' := B) [(40, .iconst 1), (41, .goto 4)] (by decide +kernel) rfl rfl ?_
        exact l_st (((can_n hB ha hb).trans ((if_neg (not_not_intro zc13)).trans ((if_neg (not_not_intro zc22)).trans (if_neg zc37)))).symm) hm13
