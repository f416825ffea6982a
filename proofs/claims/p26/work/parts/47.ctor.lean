/-! THE CONSTRUCTORS (laid by wip/p26/mk47.py) -/
theorem fs_0 : ∀ j, j < 2 → defaultValue (tyAll 0 j) = vp_V [.null, .int 0] j := fun j hj => by
  rcases (show j = 0 ∨ j = 1 by omega) with rfl | rfl <;> rfl
theorem fs_1 : ∀ j, j < 9 → defaultValue (tyAll 1 j) = vp_V [.null, .null, .null, .null, .null, .int 0, .int 0, .int 0, .int 0] j := fun j hj => by
  rcases (show j = 0 ∨ j = 1 ∨ j = 2 ∨ j = 3 ∨ j = 4 ∨ j = 5 ∨ j = 6 ∨ j = 7 ∨ j = 8 by omega) with rfl | rfl | rfl | rfl | rfl | rfl | rfl | rfl | rfl <;> rfl
theorem fs_2 : ∀ j, j < 3 → defaultValue (tyAll 2 j) = vp_V [.null, .int 0, .null] j := fun j hj => by
  rcases (show j = 0 ∨ j = 1 ∨ j = 2 by omega) with rfl | rfl | rfl <;> rfl
theorem fs_3 : ∀ j, j < 4 → defaultValue (tyAll 3 j) = vp_V [.int 0, .int 0, .null, .int 0] j := fun j hj => by
  rcases (show j = 0 ∨ j = 1 ∨ j = 2 ∨ j = 3 by omega) with rfl | rfl | rfl | rfl <;> rfl
theorem fs_4 : ∀ j, j < 4 → defaultValue (tyAll 4 j) = vp_V [.null, .null, .null, .null] j := fun j hj => by
  rcases (show j = 0 ∨ j = 1 ∨ j = 2 ∨ j = 3 by omega) with rfl | rfl | rfl | rfl <;> rfl
set_option maxHeartbeats 1000000 in
theorem n_table (l : Launch) {X : XV} {h : Nat} {a b : Int32} {N : Nat} (hab : (if (0 : Int32) < a * b then a * b else 0) = nI N) (hN : N ≤ 60) : NCon l X 1 1 60 yX3_init cX3_init 3 none [.ref h, .int a, .int b] [(h, .inr (3, [.int 0, .int 0, .null, .int 0]))] (fun _ u => ∃ q : Nat, u = [(h, .inr (3, [.int a, .int b, .ref q, .int 0])), (q, .inl (X.2 0, N, .inl (fun _ => 0)))]) := by
  refine ncon_of (ini := true) pn_X3_init (Nat.le_of_ble_eq_true rfl) (fun _ => rfl) ?_
  refine gn_al (i := 0) (pl := 0) (by decide +kernel) rfl ?_
  refine gn_obj ol_RX3_3 (Nat.le_of_ble_eq_true rfl) (Nat.le_of_ble_eq_true rfl) (by decide +kernel) ?_
  refine gn_al (i := 0) (pl := 0) (by decide +kernel) rfl ?_
  refine gn_iln (i := 1) (pl := 1) (by decide +kernel) rfl ?_
  refine gn_putF 9 3 0 0 (r := (RX3, TX3, 4)) rfl rfl (by decide) (tg 54 (by decide +kernel) (by decide +kernel)) rfl rfl rfl rfl rfl (Nat.le_of_ble_eq_true rfl) (by decide +kernel) ?_
  refine gn_ws (ws' := [(h, .inr (3, [.int a, .int 0, .null, .int 0]))]) rfl ?_
  refine gn_al (i := 0) (pl := 0) (by decide +kernel) rfl ?_
  refine gn_iln (i := 2) (pl := 2) (by decide +kernel) rfl ?_
  refine gn_putF 15 3 1 0 (r := (RX3, TX3, 4)) rfl rfl (by decide) (tg 55 (by decide +kernel) (by decide +kernel)) rfl rfl rfl rfl rfl (Nat.le_of_ble_eq_true rfl) (by decide +kernel) ?_
  refine gn_ws (ws' := [(h, .inr (3, [.int a, .int b, .null, .int 0]))]) rfl ?_
  refine gn_al (i := 0) (pl := 0) (by decide +kernel) rfl ?_
  refine gn_ic (n := 0) (0 : Int32) (by decide +kernel) (by decide) ?_
  refine gn_iln (i := 1) (pl := 1) (by decide +kernel) rfl ?_
  refine gn_iln (i := 2) (pl := 2) (by decide +kernel) rfl ?_
  refine gn_mul (by decide +kernel) ?_
  refine gn_max jl_RX3_18 hab (Nat.le_of_ble_eq_true rfl) (Nat.le_of_ble_eq_true rfl) ⟨Nat.le_of_ble_eq_true rfl, Nat.le_of_ble_eq_true rfl⟩ (by decide +kernel) ?_
  refine gn_newi N (nI_pos (by omega)) (nI_clamp (by omega)) (by omega) ⟨Nat.le_of_ble_eq_true rfl, by omega⟩ (by decide +kernel) (fun q1 => ?_)
  refine gn_ws (ws' := [(h, .inr (3, [.int a, .int b, .null, .int 0])), (q1, .inl (X.2 0, N, .inl (fun _ => 0)))]) rfl ?_
  refine gn_putF 24 3 2 0 (r := (RX3, TX3, 4)) rfl rfl (by decide) (tg 56 (by decide +kernel) (by decide +kernel)) rfl rfl rfl rfl rfl (Nat.le_of_ble_eq_true rfl) (by decide +kernel) ?_
  refine gn_ws (ws' := [(h, .inr (3, [.int a, .int b, .ref q1, .int 0])), (q1, .inl (X.2 0, N, .inl (fun _ => 0)))]) rfl ?_
  refine gn_wide (c2 := 1) (s2 := 60) (Nat.le_of_ble_eq_true rfl) (by omega) ?_
  exact gn_vret (by decide +kernel) ⟨_, rfl⟩
theorem n_isFull (l : Launch) {X : XV} {h q : Nat} {f : Nat → Int32} : NCon l X 0 0 0 yX3_isFull cX3_isFull 1 (some .boolean) [.ref h] [(h, .inr (3, [.int 1, .int 4, .ref q, .int 0])), (q, .inl (X.2 0, 4, .inl f))] (fun o u => o = some 0 ∧ u = [(h, .inr (3, [.int 1, .int 4, .ref q, .int 0])), (q, .inl (X.2 0, 4, .inl f))]) := by
  refine ncon_of (ini := false) pn_X3_isFull (Nat.le_of_ble_eq_true rfl) (fun z => absurd z (by decide)) ?_
  refine gn_al (i := 0) (pl := 0) (by decide +kernel) rfl ?_
  refine gn_get fl3_ok 28 3 3 0 (.int 0) (by decide) rfl rfl (by decide +kernel) ?_
  refine gn_al (i := 0) (pl := 0) (by decide +kernel) rfl ?_
  refine gn_get fl3_ok 9 3 0 0 (.int 1) (by decide) rfl rfl (by decide +kernel) ?_
  refine gn_ltT (off := 7) (tgt := 15) (by decide) (by decide +kernel) (by decide) ?_
  refine gn_ic (n := 0) (0 : Int32) (by decide +kernel) (by decide) ?_
  exact gn_zret (by decide +kernel) (Or.inl rfl) ⟨rfl, rfl⟩
set_option maxHeartbeats 1000000 in
theorem n_write (l : Launch) {X : XV} {h q j : Nat} {f : Nat → Int32} {c v : Int32} (hc : c = nI j) (hj : j < 4) : NCon l X 0 0 0 yX3_write cX3_write 5 none [.ref h, .int 0, .int c, .int v] [(h, .inr (3, [.int 1, .int 4, .ref q, .int 1])), (q, .inl (X.2 0, 4, .inl f))] (fun _ u => u = [(h, .inr (3, [.int 1, .int 4, .ref q, .int 1])), (q, .inl (X.2 0, 4, .inl (upd f j v)))]) := by
  subst hc
  refine ncon_of (ini := false) pn_X3_write (Nat.le_of_ble_eq_true rfl) (fun z => absurd z (by decide)) ?_
  refine gn_iln (i := 1) (pl := 1) (by decide +kernel) rfl ?_
  refine gn_lt0 (off := 23) (tgt := 24) (by decide) (by decide +kernel) (by decide) ?_
  refine gn_iln (i := 1) (pl := 1) (by decide +kernel) rfl ?_
  refine gn_al (i := 0) (pl := 0) (by decide +kernel) rfl ?_
  refine gn_get fl3_ok 28 3 3 0 (.int 1) (by decide) rfl rfl (by decide +kernel) ?_
  refine gn_geF (off := 15) (tgt := 24) (by decide) (by decide +kernel) (by decide) ?_
  refine gn_iln (i := 2) (pl := 2) (by decide +kernel) rfl ?_
  refine gn_lt0 (off := 11) (tgt := 24) (nI_pos (by omega)) (by decide +kernel) (by decide) ?_
  refine gn_iln (i := 2) (pl := 2) (by decide +kernel) rfl ?_
  refine gn_al (i := 0) (pl := 0) (by decide +kernel) rfl ?_
  refine gn_get fl3_ok 15 3 1 0 (.int 4) (by decide) rfl rfl (by decide +kernel) ?_
  refine gn_ltT (off := 4) (tgt := 25) ((nI_ltI (b := 4) (by omega) (by decide)).mpr hj) (by decide +kernel) (by decide) ?_
  refine gn_iln (i := 1) (pl := 1) (by decide +kernel) rfl ?_
  refine gn_al (i := 0) (pl := 0) (by decide +kernel) rfl ?_
  refine gn_get fl3_ok 15 3 1 0 (.int 4) (by decide) rfl rfl (by decide +kernel) ?_
  refine gn_mul (by decide +kernel) ?_
  refine gn_iln (i := 2) (pl := 2) (by decide +kernel) rfl ?_
  refine gn_add (by decide +kernel) ?_
  rw [show (0 : Int32) * 4 + nI j = nI j by rw [show (0 : Int32) * 4 = 0 from rfl, Int32.zero_add]]
  refine gn_ist (i := 4) (lv' := [(4, .int (nI j)), (0, .ref h), (1, .int 0), (2, .int (nI j)), (3, .int v)]) (by decide +kernel) (by decide) rfl ?_
  refine gn_il (i := 4) (pl := 0) (by decide +kernel) rfl ?_
  refine gn_al (i := 0) (pl := 1) (by decide +kernel) rfl ?_
  refine gn_get fl3_ok 24 3 2 0 (.ref q) (by decide) rfl rfl (by decide +kernel) ?_
  refine gn_alen (v := 4) 1 0 rfl rfl rfl (by decide +kernel) ?_
  refine gn_geF (off := 11) (tgt := 53) (fun z => absurd ((nI_leI (a := 4) (by decide) (by omega)).mp z) (by omega)) (by decide +kernel) (by decide) ?_
  refine gn_al (i := 0) (pl := 1) (by decide +kernel) rfl ?_
  refine gn_get fl3_ok 24 3 2 0 (.ref q) (by decide) rfl rfl (by decide +kernel) ?_
  refine gn_il (i := 4) (pl := 0) (by decide +kernel) rfl ?_
  refine gn_iln (i := 3) (pl := 4) (by decide +kernel) rfl ?_
  refine gn_iast 1 rfl (vp_in_nI hj (by decide)) (by decide +kernel) ?_
  rw [nI_clamp (by omega)]
  refine gn_ws (ws' := [(h, .inr (3, [.int 1, .int 4, .ref q, .int 1])), (q, .inl (X.2 0, 4, .inl (upd f j v)))]) rfl ?_
  exact gn_vret (by decide +kernel) rfl
set_option maxHeartbeats 1000000 in
theorem n_append (l : Launch) {X : XV} {h q : Nat} : NCon l X 1 0 0 yX3_append cX3_append 3 (some .int) [.ref h] [(h, .inr (3, [.int 1, .int 4, .ref q, .int 0])), (q, .inl (X.2 0, 4, .inl (fun _ => 0)))] (fun o u => o = some 0 ∧ u = [(h, .inr (3, [.int 1, .int 4, .ref q, .int 1])), (q, .inl (X.2 0, 4, .inl (upd (upd (upd (upd (fun _ => 0) 0 0) 1 0) 2 0) 3 0)))]) := by
  refine ncon_of (ini := false) pn_X3_append (Nat.le_of_ble_eq_true rfl) (fun z => absurd z (by decide)) ?_
  refine gn_al (i := 0) (pl := 0) (by decide +kernel) rfl ?_
  refine gn_callV [] h [] [] [(h, .inr (3, [.int 1, .int 4, .ref q, .int 0])), (q, .inl (X.2 0, 4, .inl (fun _ => 0)))] 0 3 (r := (RX3, TX3, 4)) vl_RX3_38 mi_X3_isFull (n_isFull l) rfl rfl rfl rfl ⟨Nat.le_of_ble_eq_true rfl, Nat.le_of_ble_eq_true rfl⟩ (Nat.le_of_ble_eq_true rfl) ⟨Nat.le_of_ble_eq_true rfl, Nat.le_of_ble_eq_true rfl⟩ rfl rfl (by decide +kernel) (fun o u _ hu => ?_)
  obtain ⟨rfl, rfl⟩ := hu
  refine gn_eqT (off := 6) (tgt := 10) (by decide +kernel) (by decide) ?_
  refine gn_ws (ws' := [(h, .inr (3, [.int 1, .int 4, .ref q, .int 0])), (q, .inl (X.2 0, 4, .inl (fun _ => 0)))]) rfl ?_
  refine gn_al (i := 0) (pl := 0) (by decide +kernel) rfl ?_
  refine gn_dup (by decide +kernel) ?_
  refine gn_get fl3_ok 28 3 3 0 (.int 0) (by decide) rfl rfl (by decide +kernel) ?_
  refine gn_ic (n := 1) (1 : Int32) (by decide +kernel) (by decide) ?_
  refine gn_add (by decide +kernel) ?_
  rw [show (0 : Int32) + 1 = 1 from rfl]
  refine gn_put 28 3 3 0 (r := (RX3, TX3, 4)) rfl (by decide) (tg 57 (by decide +kernel) (by decide +kernel)) rfl rfl rfl rfl (Nat.le_of_ble_eq_true rfl) (by decide +kernel) ?_
  refine gn_ws (ws' := [(h, .inr (3, [.int 1, .int 4, .ref q, .int 1])), (q, .inl (X.2 0, 4, .inl (fun _ => 0)))]) rfl ?_
  refine gn_al (i := 0) (pl := 0) (by decide +kernel) rfl ?_
  refine gn_get fl3_ok 28 3 3 0 (.int 1) (by decide) rfl rfl (by decide +kernel) ?_
  refine gn_ic (n := 1) (1 : Int32) (by decide +kernel) (by decide) ?_
  refine gn_sub (by decide +kernel) ?_
  rw [show (1 : Int32) - 1 = 0 from rfl]
  refine gn_istn (i := 1) (lv' := [(1, .int 0), (0, .ref h)]) (by decide +kernel) (by decide) rfl ?_
  refine gn_ic (n := 0) (0 : Int32) (by decide +kernel) (by decide) ?_
  refine gn_istn (i := 2) (lv' := [(2, .int 0), (1, .int 0), (0, .ref h)]) (by decide +kernel) (by decide) rfl ?_
  refine gn_iln (i := 2) (pl := 0) (by decide +kernel) rfl ?_
  refine gn_al (i := 0) (pl := 2) (by decide +kernel) rfl ?_
  refine gn_get fl3_ok 15 3 1 0 (.int 4) (by decide) rfl rfl (by decide +kernel) ?_
  refine gn_geF (off := 16) (tgt := 50) (by decide) (by decide +kernel) (by decide) ?_
  refine gn_al (i := 0) (pl := 2) (by decide +kernel) rfl ?_
  refine gn_iln (i := 1) (pl := 1) (by decide +kernel) rfl ?_
  refine gn_iln (i := 2) (pl := 0) (by decide +kernel) rfl ?_
  refine gn_ic (n := 0) (0 : Int32) (by decide +kernel) (by decide) ?_
  refine gn_callV [.int 0, .int 0, .int 0] h [] [] [(h, .inr (3, [.int 1, .int 4, .ref q, .int 1])), (q, .inl (X.2 0, 4, .inl (fun _ => 0)))] 0 3 (r := (RX3, TX3, 4)) vl_RX3_34 mi_X3_write (n_write l (j := 0) rfl (by decide)) rfl rfl rfl rfl ⟨Nat.le_of_ble_eq_true rfl, Nat.le_of_ble_eq_true rfl⟩ (Nat.le_of_ble_eq_true rfl) ⟨Nat.le_of_ble_eq_true rfl, Nat.le_of_ble_eq_true rfl⟩ rfl rfl (by decide +kernel) (fun o u ho hu => ?_)
  have ho : o = none := by cases o with | none => rfl | some z => exact Bool.noConfusion ho
  subst ho
  obtain rfl := hu
  refine gn_ws (ws' := [(h, .inr (3, [.int 1, .int 4, .ref q, .int 1])), (q, .inl (X.2 0, 4, .inl (upd (fun _ => 0) 0 0)))]) rfl ?_
  refine gn_inc (i := 2) (n := 1) (pl := 0) (v := 1) (lv' := [(2, .int 1), (1, .int 0), (0, .ref h)]) (by decide +kernel) rfl (by decide) (by decide) rfl ?_
  refine gn_goto (off := (-18)) (tgt := 29) (by decide +kernel) (by decide) ?_
  refine gn_iln (i := 2) (pl := 0) (by decide +kernel) rfl ?_
  refine gn_al (i := 0) (pl := 2) (by decide +kernel) rfl ?_
  refine gn_get fl3_ok 15 3 1 0 (.int 4) (by decide) rfl rfl (by decide +kernel) ?_
  refine gn_geF (off := 16) (tgt := 50) (by decide) (by decide +kernel) (by decide) ?_
  refine gn_al (i := 0) (pl := 2) (by decide +kernel) rfl ?_
  refine gn_iln (i := 1) (pl := 1) (by decide +kernel) rfl ?_
  refine gn_iln (i := 2) (pl := 0) (by decide +kernel) rfl ?_
  refine gn_ic (n := 0) (0 : Int32) (by decide +kernel) (by decide) ?_
  refine gn_callV [.int 0, .int 1, .int 0] h [] [] [(h, .inr (3, [.int 1, .int 4, .ref q, .int 1])), (q, .inl (X.2 0, 4, .inl (upd (fun _ => 0) 0 0)))] 0 3 (r := (RX3, TX3, 4)) vl_RX3_34 mi_X3_write (n_write l (j := 1) rfl (by decide)) rfl rfl rfl rfl ⟨Nat.le_of_ble_eq_true rfl, Nat.le_of_ble_eq_true rfl⟩ (Nat.le_of_ble_eq_true rfl) ⟨Nat.le_of_ble_eq_true rfl, Nat.le_of_ble_eq_true rfl⟩ rfl rfl (by decide +kernel) (fun o u ho hu => ?_)
  have ho : o = none := by cases o with | none => rfl | some z => exact Bool.noConfusion ho
  subst ho
  obtain rfl := hu
  refine gn_ws (ws' := [(h, .inr (3, [.int 1, .int 4, .ref q, .int 1])), (q, .inl (X.2 0, 4, .inl (upd (upd (fun _ => 0) 0 0) 1 0)))]) rfl ?_
  refine gn_inc (i := 2) (n := 1) (pl := 0) (v := 2) (lv' := [(2, .int 2), (1, .int 0), (0, .ref h)]) (by decide +kernel) rfl (by decide) (by decide) rfl ?_
  refine gn_goto (off := (-18)) (tgt := 29) (by decide +kernel) (by decide) ?_
  refine gn_iln (i := 2) (pl := 0) (by decide +kernel) rfl ?_
  refine gn_al (i := 0) (pl := 2) (by decide +kernel) rfl ?_
  refine gn_get fl3_ok 15 3 1 0 (.int 4) (by decide) rfl rfl (by decide +kernel) ?_
  refine gn_geF (off := 16) (tgt := 50) (by decide) (by decide +kernel) (by decide) ?_
  refine gn_al (i := 0) (pl := 2) (by decide +kernel) rfl ?_
  refine gn_iln (i := 1) (pl := 1) (by decide +kernel) rfl ?_
  refine gn_iln (i := 2) (pl := 0) (by decide +kernel) rfl ?_
  refine gn_ic (n := 0) (0 : Int32) (by decide +kernel) (by decide) ?_
  refine gn_callV [.int 0, .int 2, .int 0] h [] [] [(h, .inr (3, [.int 1, .int 4, .ref q, .int 1])), (q, .inl (X.2 0, 4, .inl (upd (upd (fun _ => 0) 0 0) 1 0)))] 0 3 (r := (RX3, TX3, 4)) vl_RX3_34 mi_X3_write (n_write l (j := 2) rfl (by decide)) rfl rfl rfl rfl ⟨Nat.le_of_ble_eq_true rfl, Nat.le_of_ble_eq_true rfl⟩ (Nat.le_of_ble_eq_true rfl) ⟨Nat.le_of_ble_eq_true rfl, Nat.le_of_ble_eq_true rfl⟩ rfl rfl (by decide +kernel) (fun o u ho hu => ?_)
  have ho : o = none := by cases o with | none => rfl | some z => exact Bool.noConfusion ho
  subst ho
  obtain rfl := hu
  refine gn_ws (ws' := [(h, .inr (3, [.int 1, .int 4, .ref q, .int 1])), (q, .inl (X.2 0, 4, .inl (upd (upd (upd (fun _ => 0) 0 0) 1 0) 2 0)))]) rfl ?_
  refine gn_inc (i := 2) (n := 1) (pl := 0) (v := 3) (lv' := [(2, .int 3), (1, .int 0), (0, .ref h)]) (by decide +kernel) rfl (by decide) (by decide) rfl ?_
  refine gn_goto (off := (-18)) (tgt := 29) (by decide +kernel) (by decide) ?_
  refine gn_iln (i := 2) (pl := 0) (by decide +kernel) rfl ?_
  refine gn_al (i := 0) (pl := 2) (by decide +kernel) rfl ?_
  refine gn_get fl3_ok 15 3 1 0 (.int 4) (by decide) rfl rfl (by decide +kernel) ?_
  refine gn_geF (off := 16) (tgt := 50) (by decide) (by decide +kernel) (by decide) ?_
  refine gn_al (i := 0) (pl := 2) (by decide +kernel) rfl ?_
  refine gn_iln (i := 1) (pl := 1) (by decide +kernel) rfl ?_
  refine gn_iln (i := 2) (pl := 0) (by decide +kernel) rfl ?_
  refine gn_ic (n := 0) (0 : Int32) (by decide +kernel) (by decide) ?_
  refine gn_callV [.int 0, .int 3, .int 0] h [] [] [(h, .inr (3, [.int 1, .int 4, .ref q, .int 1])), (q, .inl (X.2 0, 4, .inl (upd (upd (upd (fun _ => 0) 0 0) 1 0) 2 0)))] 0 3 (r := (RX3, TX3, 4)) vl_RX3_34 mi_X3_write (n_write l (j := 3) rfl (by decide)) rfl rfl rfl rfl ⟨Nat.le_of_ble_eq_true rfl, Nat.le_of_ble_eq_true rfl⟩ (Nat.le_of_ble_eq_true rfl) ⟨Nat.le_of_ble_eq_true rfl, Nat.le_of_ble_eq_true rfl⟩ rfl rfl (by decide +kernel) (fun o u ho hu => ?_)
  have ho : o = none := by cases o with | none => rfl | some z => exact Bool.noConfusion ho
  subst ho
  obtain rfl := hu
  refine gn_ws (ws' := [(h, .inr (3, [.int 1, .int 4, .ref q, .int 1])), (q, .inl (X.2 0, 4, .inl (upd (upd (upd (upd (fun _ => 0) 0 0) 1 0) 2 0) 3 0)))]) rfl ?_
  refine gn_inc (i := 2) (n := 1) (pl := 0) (v := 4) (lv' := [(2, .int 4), (1, .int 0), (0, .ref h)]) (by decide +kernel) rfl (by decide) (by decide) rfl ?_
  refine gn_goto (off := (-18)) (tgt := 29) (by decide +kernel) (by decide) ?_
  refine gn_iln (i := 2) (pl := 0) (by decide +kernel) rfl ?_
  refine gn_al (i := 0) (pl := 2) (by decide +kernel) rfl ?_
  refine gn_get fl3_ok 15 3 1 0 (.int 4) (by decide) rfl rfl (by decide +kernel) ?_
  refine gn_geT (off := 16) (tgt := 50) (by decide) (by decide +kernel) (by decide) ?_
  refine gn_iln (i := 1) (pl := 1) (by decide +kernel) rfl ?_
  exact gn_iret (by decide +kernel) ⟨rfl, rfl⟩
def setC : Nat → Int32 := (upd (upd (upd (upd (upd (upd (upd (upd (fun _ => 0) 0 0) 1 0) 2 0) 3 0) 0 20) 1 25) 2 3) 3 250)
def houseW (X : XV) (ad : Nat → Nat) : va_W := [(ad 0, .inr (1, [.ref (ad 1), .ref (ad 3), .ref (ad 5), .ref (ad 7), .ref (ad 9), .int 0, .int 0, .int 0, .int 0])), (ad 1, .inr (3, [.int 8, .int 7, .ref (ad 2), .int 0])), (ad 2, .inl (X.2 0, 56, .inl (fun _ => 0))), (ad 3, .inr (3, [.int 6, .int 5, .ref (ad 4), .int 0])), (ad 4, .inl (X.2 0, 30, .inl (fun _ => 0))), (ad 5, .inr (3, [.int 12, .int 5, .ref (ad 6), .int 0])), (ad 6, .inl (X.2 0, 60, .inl (fun _ => 0))), (ad 7, .inr (3, [.int 6, .int 2, .ref (ad 8), .int 0])), (ad 8, .inl (X.2 0, 12, .inl (fun _ => 0))), (ad 9, .inr (3, [.int 1, .int 4, .ref (ad 10), .int 1])), (ad 10, .inl (X.2 0, 4, .inl setC))]
set_option maxHeartbeats 4000000 in
theorem n_house (l : Launch) {X : XV} {h : Nat} : NCon l X 2 10 320 yX1_init cX1_init 1 none [.ref h] [(h, .inr (1, [.null, .null, .null, .null, .null, .int 0, .int 0, .int 0, .int 0]))] (fun _ u => ∃ ad : Nat → Nat, ad 0 = h ∧ u = houseW X ad) := by
  refine ncon_of (ini := true) pn_X1_init (Nat.le_of_ble_eq_true rfl) (fun _ => rfl) ?_
  refine gn_al (i := 0) (pl := 0) (by decide +kernel) rfl ?_
  refine gn_obj ol_RX1_5 (Nat.le_of_ble_eq_true rfl) (Nat.le_of_ble_eq_true rfl) (by decide +kernel) ?_
  refine gn_al (i := 0) (pl := 0) (by decide +kernel) rfl ?_
  refine gn_new (idx := 11) 3 (r := (RX3, TX3, 4)) [.int 0, .int 0, .null, .int 0] rfl (tg 45 (by decide +kernel) (by decide +kernel)) (tg 46 (by decide +kernel) (by decide +kernel)) (tg 26 (by decide +kernel) (by decide +kernel)) fs_3 ⟨Nat.le_of_ble_eq_true rfl, Nat.le_of_ble_eq_true rfl⟩ (by decide +kernel) (fun q1 => ?_)
  refine gn_ws (ws' := [(h, .inr (1, [.null, .null, .null, .null, .null, .int 0, .int 0, .int 0, .int 0])), (q1, .inr (3, [.int 0, .int 0, .null, .int 0]))]) rfl ?_
  refine gn_dup (by decide +kernel) ?_
  refine gn_bi (n := 8) (8 : Int32) (by decide +kernel) (by decide) ?_
  refine gn_bi (n := 7) (7 : Int32) (by decide +kernel) (by decide) ?_
  refine gn_callI [.int 8, .int 7] q1 [.ref q1, .ref h] ([(h, .inr (1, [.null, .null, .null, .null, .null, .int 0, .int 0, .int 0, .int 0]))]) [(q1, .inr (3, [.int 0, .int 0, .null, .int 0]))] il_RX1_13 mi_X3_init rfl (n_table l (N := 56) rfl (by decide)) rfl ⟨Nat.le_of_ble_eq_true rfl, Nat.le_of_ble_eq_true rfl⟩ (Nat.le_of_ble_eq_true rfl) ⟨Nat.le_of_ble_eq_true rfl, Nat.le_of_ble_eq_true rfl⟩ rfl rfl (by decide +kernel) (fun u hu => ?_)
  obtain ⟨q2, rfl⟩ := hu
  refine gn_ws (ws' := [(h, .inr (1, [.null, .null, .null, .null, .null, .int 0, .int 0, .int 0, .int 0])), (q1, .inr (3, [.int 8, .int 7, .ref q2, .int 0])), (q2, .inl (X.2 0, 56, .inl (fun _ => 0)))]) rfl ?_
  refine gn_putF 16 1 0 0 (r := (RX1, TX1, 9)) rfl rfl (by decide) (tg 81 (by decide +kernel) (by decide +kernel)) rfl rfl rfl rfl rfl (Nat.le_of_ble_eq_true rfl) (by decide +kernel) ?_
  refine gn_ws (ws' := [(h, .inr (1, [.ref q1, .null, .null, .null, .null, .int 0, .int 0, .int 0, .int 0])), (q1, .inr (3, [.int 8, .int 7, .ref q2, .int 0])), (q2, .inl (X.2 0, 56, .inl (fun _ => 0)))]) rfl ?_
  refine gn_al (i := 0) (pl := 0) (by decide +kernel) rfl ?_
  refine gn_new (idx := 11) 3 (r := (RX3, TX3, 4)) [.int 0, .int 0, .null, .int 0] rfl (tg 45 (by decide +kernel) (by decide +kernel)) (tg 46 (by decide +kernel) (by decide +kernel)) (tg 26 (by decide +kernel) (by decide +kernel)) fs_3 ⟨Nat.le_of_ble_eq_true rfl, Nat.le_of_ble_eq_true rfl⟩ (by decide +kernel) (fun q3 => ?_)
  refine gn_ws (ws' := [(h, .inr (1, [.ref q1, .null, .null, .null, .null, .int 0, .int 0, .int 0, .int 0])), (q1, .inr (3, [.int 8, .int 7, .ref q2, .int 0])), (q2, .inl (X.2 0, 56, .inl (fun _ => 0))), (q3, .inr (3, [.int 0, .int 0, .null, .int 0]))]) rfl ?_
  refine gn_dup (by decide +kernel) ?_
  refine gn_bi (n := 6) (6 : Int32) (by decide +kernel) (by decide) ?_
  refine gn_ic (n := 5) (5 : Int32) (by decide +kernel) (by decide) ?_
  refine gn_callI [.int 6, .int 5] q3 [.ref q3, .ref h] ([(h, .inr (1, [.ref q1, .null, .null, .null, .null, .int 0, .int 0, .int 0, .int 0])), (q1, .inr (3, [.int 8, .int 7, .ref q2, .int 0])), (q2, .inl (X.2 0, 56, .inl (fun _ => 0)))]) [(q3, .inr (3, [.int 0, .int 0, .null, .int 0]))] il_RX1_13 mi_X3_init rfl (n_table l (N := 30) rfl (by decide)) rfl ⟨Nat.le_of_ble_eq_true rfl, Nat.le_of_ble_eq_true rfl⟩ (Nat.le_of_ble_eq_true rfl) ⟨Nat.le_of_ble_eq_true rfl, Nat.le_of_ble_eq_true rfl⟩ rfl rfl (by decide +kernel) (fun u hu => ?_)
  obtain ⟨q4, rfl⟩ := hu
  refine gn_ws (ws' := [(h, .inr (1, [.ref q1, .null, .null, .null, .null, .int 0, .int 0, .int 0, .int 0])), (q1, .inr (3, [.int 8, .int 7, .ref q2, .int 0])), (q2, .inl (X.2 0, 56, .inl (fun _ => 0))), (q3, .inr (3, [.int 6, .int 5, .ref q4, .int 0])), (q4, .inl (X.2 0, 30, .inl (fun _ => 0)))]) rfl ?_
  refine gn_putF 20 1 1 0 (r := (RX1, TX1, 9)) rfl rfl (by decide) (tg 83 (by decide +kernel) (by decide +kernel)) rfl rfl rfl rfl rfl (Nat.le_of_ble_eq_true rfl) (by decide +kernel) ?_
  refine gn_ws (ws' := [(h, .inr (1, [.ref q1, .ref q3, .null, .null, .null, .int 0, .int 0, .int 0, .int 0])), (q1, .inr (3, [.int 8, .int 7, .ref q2, .int 0])), (q2, .inl (X.2 0, 56, .inl (fun _ => 0))), (q3, .inr (3, [.int 6, .int 5, .ref q4, .int 0])), (q4, .inl (X.2 0, 30, .inl (fun _ => 0)))]) rfl ?_
  refine gn_al (i := 0) (pl := 0) (by decide +kernel) rfl ?_
  refine gn_new (idx := 11) 3 (r := (RX3, TX3, 4)) [.int 0, .int 0, .null, .int 0] rfl (tg 45 (by decide +kernel) (by decide +kernel)) (tg 46 (by decide +kernel) (by decide +kernel)) (tg 26 (by decide +kernel) (by decide +kernel)) fs_3 ⟨Nat.le_of_ble_eq_true rfl, Nat.le_of_ble_eq_true rfl⟩ (by decide +kernel) (fun q5 => ?_)
  refine gn_ws (ws' := [(h, .inr (1, [.ref q1, .ref q3, .null, .null, .null, .int 0, .int 0, .int 0, .int 0])), (q1, .inr (3, [.int 8, .int 7, .ref q2, .int 0])), (q2, .inl (X.2 0, 56, .inl (fun _ => 0))), (q3, .inr (3, [.int 6, .int 5, .ref q4, .int 0])), (q4, .inl (X.2 0, 30, .inl (fun _ => 0))), (q5, .inr (3, [.int 0, .int 0, .null, .int 0]))]) rfl ?_
  refine gn_dup (by decide +kernel) ?_
  refine gn_bi (n := 12) (12 : Int32) (by decide +kernel) (by decide) ?_
  refine gn_ic (n := 5) (5 : Int32) (by decide +kernel) (by decide) ?_
  refine gn_callI [.int 12, .int 5] q5 [.ref q5, .ref h] ([(h, .inr (1, [.ref q1, .ref q3, .null, .null, .null, .int 0, .int 0, .int 0, .int 0])), (q1, .inr (3, [.int 8, .int 7, .ref q2, .int 0])), (q2, .inl (X.2 0, 56, .inl (fun _ => 0))), (q3, .inr (3, [.int 6, .int 5, .ref q4, .int 0])), (q4, .inl (X.2 0, 30, .inl (fun _ => 0)))]) [(q5, .inr (3, [.int 0, .int 0, .null, .int 0]))] il_RX1_13 mi_X3_init rfl (n_table l (N := 60) rfl (by decide)) rfl ⟨Nat.le_of_ble_eq_true rfl, Nat.le_of_ble_eq_true rfl⟩ (Nat.le_of_ble_eq_true rfl) ⟨Nat.le_of_ble_eq_true rfl, Nat.le_of_ble_eq_true rfl⟩ rfl rfl (by decide +kernel) (fun u hu => ?_)
  obtain ⟨q6, rfl⟩ := hu
  refine gn_ws (ws' := [(h, .inr (1, [.ref q1, .ref q3, .null, .null, .null, .int 0, .int 0, .int 0, .int 0])), (q1, .inr (3, [.int 8, .int 7, .ref q2, .int 0])), (q2, .inl (X.2 0, 56, .inl (fun _ => 0))), (q3, .inr (3, [.int 6, .int 5, .ref q4, .int 0])), (q4, .inl (X.2 0, 30, .inl (fun _ => 0))), (q5, .inr (3, [.int 12, .int 5, .ref q6, .int 0])), (q6, .inl (X.2 0, 60, .inl (fun _ => 0)))]) rfl ?_
  refine gn_putF 23 1 2 0 (r := (RX1, TX1, 9)) rfl rfl (by decide) (tg 85 (by decide +kernel) (by decide +kernel)) rfl rfl rfl rfl rfl (Nat.le_of_ble_eq_true rfl) (by decide +kernel) ?_
  refine gn_ws (ws' := [(h, .inr (1, [.ref q1, .ref q3, .ref q5, .null, .null, .int 0, .int 0, .int 0, .int 0])), (q1, .inr (3, [.int 8, .int 7, .ref q2, .int 0])), (q2, .inl (X.2 0, 56, .inl (fun _ => 0))), (q3, .inr (3, [.int 6, .int 5, .ref q4, .int 0])), (q4, .inl (X.2 0, 30, .inl (fun _ => 0))), (q5, .inr (3, [.int 12, .int 5, .ref q6, .int 0])), (q6, .inl (X.2 0, 60, .inl (fun _ => 0)))]) rfl ?_
  refine gn_al (i := 0) (pl := 0) (by decide +kernel) rfl ?_
  refine gn_new (idx := 11) 3 (r := (RX3, TX3, 4)) [.int 0, .int 0, .null, .int 0] rfl (tg 45 (by decide +kernel) (by decide +kernel)) (tg 46 (by decide +kernel) (by decide +kernel)) (tg 26 (by decide +kernel) (by decide +kernel)) fs_3 ⟨Nat.le_of_ble_eq_true rfl, Nat.le_of_ble_eq_true rfl⟩ (by decide +kernel) (fun q7 => ?_)
  refine gn_ws (ws' := [(h, .inr (1, [.ref q1, .ref q3, .ref q5, .null, .null, .int 0, .int 0, .int 0, .int 0])), (q1, .inr (3, [.int 8, .int 7, .ref q2, .int 0])), (q2, .inl (X.2 0, 56, .inl (fun _ => 0))), (q3, .inr (3, [.int 6, .int 5, .ref q4, .int 0])), (q4, .inl (X.2 0, 30, .inl (fun _ => 0))), (q5, .inr (3, [.int 12, .int 5, .ref q6, .int 0])), (q6, .inl (X.2 0, 60, .inl (fun _ => 0))), (q7, .inr (3, [.int 0, .int 0, .null, .int 0]))]) rfl ?_
  refine gn_dup (by decide +kernel) ?_
  refine gn_bi (n := 6) (6 : Int32) (by decide +kernel) (by decide) ?_
  refine gn_ic (n := 2) (2 : Int32) (by decide +kernel) (by decide) ?_
  refine gn_callI [.int 6, .int 2] q7 [.ref q7, .ref h] ([(h, .inr (1, [.ref q1, .ref q3, .ref q5, .null, .null, .int 0, .int 0, .int 0, .int 0])), (q1, .inr (3, [.int 8, .int 7, .ref q2, .int 0])), (q2, .inl (X.2 0, 56, .inl (fun _ => 0))), (q3, .inr (3, [.int 6, .int 5, .ref q4, .int 0])), (q4, .inl (X.2 0, 30, .inl (fun _ => 0))), (q5, .inr (3, [.int 12, .int 5, .ref q6, .int 0])), (q6, .inl (X.2 0, 60, .inl (fun _ => 0)))]) [(q7, .inr (3, [.int 0, .int 0, .null, .int 0]))] il_RX1_13 mi_X3_init rfl (n_table l (N := 12) rfl (by decide)) rfl ⟨Nat.le_of_ble_eq_true rfl, Nat.le_of_ble_eq_true rfl⟩ (Nat.le_of_ble_eq_true rfl) ⟨Nat.le_of_ble_eq_true rfl, Nat.le_of_ble_eq_true rfl⟩ rfl rfl (by decide +kernel) (fun u hu => ?_)
  obtain ⟨q8, rfl⟩ := hu
  refine gn_ws (ws' := [(h, .inr (1, [.ref q1, .ref q3, .ref q5, .null, .null, .int 0, .int 0, .int 0, .int 0])), (q1, .inr (3, [.int 8, .int 7, .ref q2, .int 0])), (q2, .inl (X.2 0, 56, .inl (fun _ => 0))), (q3, .inr (3, [.int 6, .int 5, .ref q4, .int 0])), (q4, .inl (X.2 0, 30, .inl (fun _ => 0))), (q5, .inr (3, [.int 12, .int 5, .ref q6, .int 0])), (q6, .inl (X.2 0, 60, .inl (fun _ => 0))), (q7, .inr (3, [.int 6, .int 2, .ref q8, .int 0])), (q8, .inl (X.2 0, 12, .inl (fun _ => 0)))]) rfl ?_
  refine gn_putF 26 1 3 0 (r := (RX1, TX1, 9)) rfl rfl (by decide) (tg 87 (by decide +kernel) (by decide +kernel)) rfl rfl rfl rfl rfl (Nat.le_of_ble_eq_true rfl) (by decide +kernel) ?_
  refine gn_ws (ws' := [(h, .inr (1, [.ref q1, .ref q3, .ref q5, .ref q7, .null, .int 0, .int 0, .int 0, .int 0])), (q1, .inr (3, [.int 8, .int 7, .ref q2, .int 0])), (q2, .inl (X.2 0, 56, .inl (fun _ => 0))), (q3, .inr (3, [.int 6, .int 5, .ref q4, .int 0])), (q4, .inl (X.2 0, 30, .inl (fun _ => 0))), (q5, .inr (3, [.int 12, .int 5, .ref q6, .int 0])), (q6, .inl (X.2 0, 60, .inl (fun _ => 0))), (q7, .inr (3, [.int 6, .int 2, .ref q8, .int 0])), (q8, .inl (X.2 0, 12, .inl (fun _ => 0)))]) rfl ?_
  refine gn_al (i := 0) (pl := 0) (by decide +kernel) rfl ?_
  refine gn_new (idx := 11) 3 (r := (RX3, TX3, 4)) [.int 0, .int 0, .null, .int 0] rfl (tg 45 (by decide +kernel) (by decide +kernel)) (tg 46 (by decide +kernel) (by decide +kernel)) (tg 26 (by decide +kernel) (by decide +kernel)) fs_3 ⟨Nat.le_of_ble_eq_true rfl, Nat.le_of_ble_eq_true rfl⟩ (by decide +kernel) (fun q9 => ?_)
  refine gn_ws (ws' := [(h, .inr (1, [.ref q1, .ref q3, .ref q5, .ref q7, .null, .int 0, .int 0, .int 0, .int 0])), (q1, .inr (3, [.int 8, .int 7, .ref q2, .int 0])), (q2, .inl (X.2 0, 56, .inl (fun _ => 0))), (q3, .inr (3, [.int 6, .int 5, .ref q4, .int 0])), (q4, .inl (X.2 0, 30, .inl (fun _ => 0))), (q5, .inr (3, [.int 12, .int 5, .ref q6, .int 0])), (q6, .inl (X.2 0, 60, .inl (fun _ => 0))), (q7, .inr (3, [.int 6, .int 2, .ref q8, .int 0])), (q8, .inl (X.2 0, 12, .inl (fun _ => 0))), (q9, .inr (3, [.int 0, .int 0, .null, .int 0]))]) rfl ?_
  refine gn_dup (by decide +kernel) ?_
  refine gn_ic (n := 1) (1 : Int32) (by decide +kernel) (by decide) ?_
  refine gn_ic (n := 4) (4 : Int32) (by decide +kernel) (by decide) ?_
  refine gn_callI [.int 1, .int 4] q9 [.ref q9, .ref h] ([(h, .inr (1, [.ref q1, .ref q3, .ref q5, .ref q7, .null, .int 0, .int 0, .int 0, .int 0])), (q1, .inr (3, [.int 8, .int 7, .ref q2, .int 0])), (q2, .inl (X.2 0, 56, .inl (fun _ => 0))), (q3, .inr (3, [.int 6, .int 5, .ref q4, .int 0])), (q4, .inl (X.2 0, 30, .inl (fun _ => 0))), (q5, .inr (3, [.int 12, .int 5, .ref q6, .int 0])), (q6, .inl (X.2 0, 60, .inl (fun _ => 0))), (q7, .inr (3, [.int 6, .int 2, .ref q8, .int 0])), (q8, .inl (X.2 0, 12, .inl (fun _ => 0)))]) [(q9, .inr (3, [.int 0, .int 0, .null, .int 0]))] il_RX1_13 mi_X3_init rfl (n_table l (N := 4) rfl (by decide)) rfl ⟨Nat.le_of_ble_eq_true rfl, Nat.le_of_ble_eq_true rfl⟩ (Nat.le_of_ble_eq_true rfl) ⟨Nat.le_of_ble_eq_true rfl, Nat.le_of_ble_eq_true rfl⟩ rfl rfl (by decide +kernel) (fun u hu => ?_)
  obtain ⟨q10, rfl⟩ := hu
  refine gn_ws (ws' := [(h, .inr (1, [.ref q1, .ref q3, .ref q5, .ref q7, .null, .int 0, .int 0, .int 0, .int 0])), (q1, .inr (3, [.int 8, .int 7, .ref q2, .int 0])), (q2, .inl (X.2 0, 56, .inl (fun _ => 0))), (q3, .inr (3, [.int 6, .int 5, .ref q4, .int 0])), (q4, .inl (X.2 0, 30, .inl (fun _ => 0))), (q5, .inr (3, [.int 12, .int 5, .ref q6, .int 0])), (q6, .inl (X.2 0, 60, .inl (fun _ => 0))), (q7, .inr (3, [.int 6, .int 2, .ref q8, .int 0])), (q8, .inl (X.2 0, 12, .inl (fun _ => 0))), (q9, .inr (3, [.int 1, .int 4, .ref q10, .int 0])), (q10, .inl (X.2 0, 4, .inl (fun _ => 0)))]) rfl ?_
  refine gn_putF 29 1 4 0 (r := (RX1, TX1, 9)) rfl rfl (by decide) (tg 89 (by decide +kernel) (by decide +kernel)) rfl rfl rfl rfl rfl (Nat.le_of_ble_eq_true rfl) (by decide +kernel) ?_
  refine gn_ws (ws' := [(h, .inr (1, [.ref q1, .ref q3, .ref q5, .ref q7, .ref q9, .int 0, .int 0, .int 0, .int 0])), (q1, .inr (3, [.int 8, .int 7, .ref q2, .int 0])), (q2, .inl (X.2 0, 56, .inl (fun _ => 0))), (q3, .inr (3, [.int 6, .int 5, .ref q4, .int 0])), (q4, .inl (X.2 0, 30, .inl (fun _ => 0))), (q5, .inr (3, [.int 12, .int 5, .ref q6, .int 0])), (q6, .inl (X.2 0, 60, .inl (fun _ => 0))), (q7, .inr (3, [.int 6, .int 2, .ref q8, .int 0])), (q8, .inl (X.2 0, 12, .inl (fun _ => 0))), (q9, .inr (3, [.int 1, .int 4, .ref q10, .int 0])), (q10, .inl (X.2 0, 4, .inl (fun _ => 0)))]) rfl ?_
  refine gn_al (i := 0) (pl := 0) (by decide +kernel) rfl ?_
  refine gn_get fl1_ok 29 1 4 0 (.ref q9) (by decide) rfl rfl (by decide +kernel) ?_
  refine gn_callV [] q9 [] ([(h, .inr (1, [.ref q1, .ref q3, .ref q5, .ref q7, .ref q9, .int 0, .int 0, .int 0, .int 0])), (q1, .inr (3, [.int 8, .int 7, .ref q2, .int 0])), (q2, .inl (X.2 0, 56, .inl (fun _ => 0))), (q3, .inr (3, [.int 6, .int 5, .ref q4, .int 0])), (q4, .inl (X.2 0, 30, .inl (fun _ => 0))), (q5, .inr (3, [.int 12, .int 5, .ref q6, .int 0])), (q6, .inl (X.2 0, 60, .inl (fun _ => 0))), (q7, .inr (3, [.int 6, .int 2, .ref q8, .int 0])), (q8, .inl (X.2 0, 12, .inl (fun _ => 0)))]) [(q9, .inr (3, [.int 1, .int 4, .ref q10, .int 0])), (q10, .inl (X.2 0, 4, .inl (fun _ => 0)))] 0 3 (r := (RX3, TX3, 4)) vl_RX1_32 mi_X3_append (n_append l) rfl rfl rfl rfl ⟨Nat.le_of_ble_eq_true rfl, Nat.le_of_ble_eq_true rfl⟩ (Nat.le_of_ble_eq_true rfl) ⟨Nat.le_of_ble_eq_true rfl, Nat.le_of_ble_eq_true rfl⟩ rfl rfl (by decide +kernel) (fun o u _ hu => ?_)
  obtain ⟨rfl, rfl⟩ := hu
  refine gn_ws (ws' := [(h, .inr (1, [.ref q1, .ref q3, .ref q5, .ref q7, .ref q9, .int 0, .int 0, .int 0, .int 0])), (q1, .inr (3, [.int 8, .int 7, .ref q2, .int 0])), (q2, .inl (X.2 0, 56, .inl (fun _ => 0))), (q3, .inr (3, [.int 6, .int 5, .ref q4, .int 0])), (q4, .inl (X.2 0, 30, .inl (fun _ => 0))), (q5, .inr (3, [.int 12, .int 5, .ref q6, .int 0])), (q6, .inl (X.2 0, 60, .inl (fun _ => 0))), (q7, .inr (3, [.int 6, .int 2, .ref q8, .int 0])), (q8, .inl (X.2 0, 12, .inl (fun _ => 0))), (q9, .inr (3, [.int 1, .int 4, .ref q10, .int 1])), (q10, .inl (X.2 0, 4, .inl (upd (upd (upd (upd (fun _ => 0) 0 0) 1 0) 2 0) 3 0)))]) rfl ?_
  refine gn_pop (by decide +kernel) ?_
  refine gn_al (i := 0) (pl := 0) (by decide +kernel) rfl ?_
  refine gn_get fl1_ok 29 1 4 0 (.ref q9) (by decide) rfl rfl (by decide +kernel) ?_
  refine gn_ic (n := 0) (0 : Int32) (by decide +kernel) (by decide) ?_
  refine gn_ic (n := 0) (0 : Int32) (by decide +kernel) (by decide) ?_
  refine gn_bi (n := 20) (20 : Int32) (by decide +kernel) (by decide) ?_
  refine gn_callV [.int 0, .int 0, .int 20] q9 [] ([(h, .inr (1, [.ref q1, .ref q3, .ref q5, .ref q7, .ref q9, .int 0, .int 0, .int 0, .int 0])), (q1, .inr (3, [.int 8, .int 7, .ref q2, .int 0])), (q2, .inl (X.2 0, 56, .inl (fun _ => 0))), (q3, .inr (3, [.int 6, .int 5, .ref q4, .int 0])), (q4, .inl (X.2 0, 30, .inl (fun _ => 0))), (q5, .inr (3, [.int 12, .int 5, .ref q6, .int 0])), (q6, .inl (X.2 0, 60, .inl (fun _ => 0))), (q7, .inr (3, [.int 6, .int 2, .ref q8, .int 0])), (q8, .inl (X.2 0, 12, .inl (fun _ => 0)))]) [(q9, .inr (3, [.int 1, .int 4, .ref q10, .int 1])), (q10, .inl (X.2 0, 4, .inl (upd (upd (upd (upd (fun _ => 0) 0 0) 1 0) 2 0) 3 0)))] 0 3 (r := (RX3, TX3, 4)) vl_RX1_36 mi_X3_write (n_write l (j := 0) rfl (by decide)) rfl rfl rfl rfl ⟨Nat.le_of_ble_eq_true rfl, Nat.le_of_ble_eq_true rfl⟩ (Nat.le_of_ble_eq_true rfl) ⟨Nat.le_of_ble_eq_true rfl, Nat.le_of_ble_eq_true rfl⟩ rfl rfl (by decide +kernel) (fun o u ho hu => ?_)
  have ho : o = none := by cases o with | none => rfl | some z => exact Bool.noConfusion ho
  subst ho
  obtain rfl := hu
  refine gn_ws (ws' := [(h, .inr (1, [.ref q1, .ref q3, .ref q5, .ref q7, .ref q9, .int 0, .int 0, .int 0, .int 0])), (q1, .inr (3, [.int 8, .int 7, .ref q2, .int 0])), (q2, .inl (X.2 0, 56, .inl (fun _ => 0))), (q3, .inr (3, [.int 6, .int 5, .ref q4, .int 0])), (q4, .inl (X.2 0, 30, .inl (fun _ => 0))), (q5, .inr (3, [.int 12, .int 5, .ref q6, .int 0])), (q6, .inl (X.2 0, 60, .inl (fun _ => 0))), (q7, .inr (3, [.int 6, .int 2, .ref q8, .int 0])), (q8, .inl (X.2 0, 12, .inl (fun _ => 0))), (q9, .inr (3, [.int 1, .int 4, .ref q10, .int 1])), (q10, .inl (X.2 0, 4, .inl (upd (upd (upd (upd (upd (fun _ => 0) 0 0) 1 0) 2 0) 3 0) 0 20)))]) rfl ?_
  refine gn_al (i := 0) (pl := 0) (by decide +kernel) rfl ?_
  refine gn_get fl1_ok 29 1 4 0 (.ref q9) (by decide) rfl rfl (by decide +kernel) ?_
  refine gn_ic (n := 0) (0 : Int32) (by decide +kernel) (by decide) ?_
  refine gn_ic (n := 1) (1 : Int32) (by decide +kernel) (by decide) ?_
  refine gn_bi (n := 25) (25 : Int32) (by decide +kernel) (by decide) ?_
  refine gn_callV [.int 0, .int 1, .int 25] q9 [] ([(h, .inr (1, [.ref q1, .ref q3, .ref q5, .ref q7, .ref q9, .int 0, .int 0, .int 0, .int 0])), (q1, .inr (3, [.int 8, .int 7, .ref q2, .int 0])), (q2, .inl (X.2 0, 56, .inl (fun _ => 0))), (q3, .inr (3, [.int 6, .int 5, .ref q4, .int 0])), (q4, .inl (X.2 0, 30, .inl (fun _ => 0))), (q5, .inr (3, [.int 12, .int 5, .ref q6, .int 0])), (q6, .inl (X.2 0, 60, .inl (fun _ => 0))), (q7, .inr (3, [.int 6, .int 2, .ref q8, .int 0])), (q8, .inl (X.2 0, 12, .inl (fun _ => 0)))]) [(q9, .inr (3, [.int 1, .int 4, .ref q10, .int 1])), (q10, .inl (X.2 0, 4, .inl (upd (upd (upd (upd (upd (fun _ => 0) 0 0) 1 0) 2 0) 3 0) 0 20)))] 0 3 (r := (RX3, TX3, 4)) vl_RX1_36 mi_X3_write (n_write l (j := 1) rfl (by decide)) rfl rfl rfl rfl ⟨Nat.le_of_ble_eq_true rfl, Nat.le_of_ble_eq_true rfl⟩ (Nat.le_of_ble_eq_true rfl) ⟨Nat.le_of_ble_eq_true rfl, Nat.le_of_ble_eq_true rfl⟩ rfl rfl (by decide +kernel) (fun o u ho hu => ?_)
  have ho : o = none := by cases o with | none => rfl | some z => exact Bool.noConfusion ho
  subst ho
  obtain rfl := hu
  refine gn_ws (ws' := [(h, .inr (1, [.ref q1, .ref q3, .ref q5, .ref q7, .ref q9, .int 0, .int 0, .int 0, .int 0])), (q1, .inr (3, [.int 8, .int 7, .ref q2, .int 0])), (q2, .inl (X.2 0, 56, .inl (fun _ => 0))), (q3, .inr (3, [.int 6, .int 5, .ref q4, .int 0])), (q4, .inl (X.2 0, 30, .inl (fun _ => 0))), (q5, .inr (3, [.int 12, .int 5, .ref q6, .int 0])), (q6, .inl (X.2 0, 60, .inl (fun _ => 0))), (q7, .inr (3, [.int 6, .int 2, .ref q8, .int 0])), (q8, .inl (X.2 0, 12, .inl (fun _ => 0))), (q9, .inr (3, [.int 1, .int 4, .ref q10, .int 1])), (q10, .inl (X.2 0, 4, .inl (upd (upd (upd (upd (upd (upd (fun _ => 0) 0 0) 1 0) 2 0) 3 0) 0 20) 1 25)))]) rfl ?_
  refine gn_al (i := 0) (pl := 0) (by decide +kernel) rfl ?_
  refine gn_get fl1_ok 29 1 4 0 (.ref q9) (by decide) rfl rfl (by decide +kernel) ?_
  refine gn_ic (n := 0) (0 : Int32) (by decide +kernel) (by decide) ?_
  refine gn_ic (n := 2) (2 : Int32) (by decide +kernel) (by decide) ?_
  refine gn_ic (n := 3) (3 : Int32) (by decide +kernel) (by decide) ?_
  refine gn_callV [.int 0, .int 2, .int 3] q9 [] ([(h, .inr (1, [.ref q1, .ref q3, .ref q5, .ref q7, .ref q9, .int 0, .int 0, .int 0, .int 0])), (q1, .inr (3, [.int 8, .int 7, .ref q2, .int 0])), (q2, .inl (X.2 0, 56, .inl (fun _ => 0))), (q3, .inr (3, [.int 6, .int 5, .ref q4, .int 0])), (q4, .inl (X.2 0, 30, .inl (fun _ => 0))), (q5, .inr (3, [.int 12, .int 5, .ref q6, .int 0])), (q6, .inl (X.2 0, 60, .inl (fun _ => 0))), (q7, .inr (3, [.int 6, .int 2, .ref q8, .int 0])), (q8, .inl (X.2 0, 12, .inl (fun _ => 0)))]) [(q9, .inr (3, [.int 1, .int 4, .ref q10, .int 1])), (q10, .inl (X.2 0, 4, .inl (upd (upd (upd (upd (upd (upd (fun _ => 0) 0 0) 1 0) 2 0) 3 0) 0 20) 1 25)))] 0 3 (r := (RX3, TX3, 4)) vl_RX1_36 mi_X3_write (n_write l (j := 2) rfl (by decide)) rfl rfl rfl rfl ⟨Nat.le_of_ble_eq_true rfl, Nat.le_of_ble_eq_true rfl⟩ (Nat.le_of_ble_eq_true rfl) ⟨Nat.le_of_ble_eq_true rfl, Nat.le_of_ble_eq_true rfl⟩ rfl rfl (by decide +kernel) (fun o u ho hu => ?_)
  have ho : o = none := by cases o with | none => rfl | some z => exact Bool.noConfusion ho
  subst ho
  obtain rfl := hu
  refine gn_ws (ws' := [(h, .inr (1, [.ref q1, .ref q3, .ref q5, .ref q7, .ref q9, .int 0, .int 0, .int 0, .int 0])), (q1, .inr (3, [.int 8, .int 7, .ref q2, .int 0])), (q2, .inl (X.2 0, 56, .inl (fun _ => 0))), (q3, .inr (3, [.int 6, .int 5, .ref q4, .int 0])), (q4, .inl (X.2 0, 30, .inl (fun _ => 0))), (q5, .inr (3, [.int 12, .int 5, .ref q6, .int 0])), (q6, .inl (X.2 0, 60, .inl (fun _ => 0))), (q7, .inr (3, [.int 6, .int 2, .ref q8, .int 0])), (q8, .inl (X.2 0, 12, .inl (fun _ => 0))), (q9, .inr (3, [.int 1, .int 4, .ref q10, .int 1])), (q10, .inl (X.2 0, 4, .inl (upd (upd (upd (upd (upd (upd (upd (fun _ => 0) 0 0) 1 0) 2 0) 3 0) 0 20) 1 25) 2 3)))]) rfl ?_
  refine gn_al (i := 0) (pl := 0) (by decide +kernel) rfl ?_
  refine gn_get fl1_ok 29 1 4 0 (.ref q9) (by decide) rfl rfl (by decide +kernel) ?_
  refine gn_ic (n := 0) (0 : Int32) (by decide +kernel) (by decide) ?_
  refine gn_ic (n := 3) (3 : Int32) (by decide +kernel) (by decide) ?_
  refine gn_si (n := 250) (250 : Int32) (by decide +kernel) (by decide) ?_
  refine gn_callV [.int 0, .int 3, .int 250] q9 [] ([(h, .inr (1, [.ref q1, .ref q3, .ref q5, .ref q7, .ref q9, .int 0, .int 0, .int 0, .int 0])), (q1, .inr (3, [.int 8, .int 7, .ref q2, .int 0])), (q2, .inl (X.2 0, 56, .inl (fun _ => 0))), (q3, .inr (3, [.int 6, .int 5, .ref q4, .int 0])), (q4, .inl (X.2 0, 30, .inl (fun _ => 0))), (q5, .inr (3, [.int 12, .int 5, .ref q6, .int 0])), (q6, .inl (X.2 0, 60, .inl (fun _ => 0))), (q7, .inr (3, [.int 6, .int 2, .ref q8, .int 0])), (q8, .inl (X.2 0, 12, .inl (fun _ => 0)))]) [(q9, .inr (3, [.int 1, .int 4, .ref q10, .int 1])), (q10, .inl (X.2 0, 4, .inl (upd (upd (upd (upd (upd (upd (upd (fun _ => 0) 0 0) 1 0) 2 0) 3 0) 0 20) 1 25) 2 3)))] 0 3 (r := (RX3, TX3, 4)) vl_RX1_36 mi_X3_write (n_write l (j := 3) rfl (by decide)) rfl rfl rfl rfl ⟨Nat.le_of_ble_eq_true rfl, Nat.le_of_ble_eq_true rfl⟩ (Nat.le_of_ble_eq_true rfl) ⟨Nat.le_of_ble_eq_true rfl, Nat.le_of_ble_eq_true rfl⟩ rfl rfl (by decide +kernel) (fun o u ho hu => ?_)
  have ho : o = none := by cases o with | none => rfl | some z => exact Bool.noConfusion ho
  subst ho
  obtain rfl := hu
  refine gn_ws (ws' := [(h, .inr (1, [.ref q1, .ref q3, .ref q5, .ref q7, .ref q9, .int 0, .int 0, .int 0, .int 0])), (q1, .inr (3, [.int 8, .int 7, .ref q2, .int 0])), (q2, .inl (X.2 0, 56, .inl (fun _ => 0))), (q3, .inr (3, [.int 6, .int 5, .ref q4, .int 0])), (q4, .inl (X.2 0, 30, .inl (fun _ => 0))), (q5, .inr (3, [.int 12, .int 5, .ref q6, .int 0])), (q6, .inl (X.2 0, 60, .inl (fun _ => 0))), (q7, .inr (3, [.int 6, .int 2, .ref q8, .int 0])), (q8, .inl (X.2 0, 12, .inl (fun _ => 0))), (q9, .inr (3, [.int 1, .int 4, .ref q10, .int 1])), (q10, .inl (X.2 0, 4, .inl (upd (upd (upd (upd (upd (upd (upd (upd (fun _ => 0) 0 0) 1 0) 2 0) 3 0) 0 20) 1 25) 2 3) 3 250)))]) rfl ?_
  exact gn_vret (by decide +kernel) ⟨fun k => match k with
      | 0 => h
      | 1 => q1
      | 2 => q2
      | 3 => q3
      | 4 => q4
      | 5 => q5
      | 6 => q6
      | 7 => q7
      | 8 => q8
      | 9 => q9
      | _ => q10, rfl, rfl⟩
def padW (X : XV) (a b c d : Nat) : va_W := [(a, .inr (2, [.ref b, .int 0, .ref c])), (b, .inl (X.2 1, 60, .inl (fun _ => 0))), (c, .inr (3, [.int 30, .int 2, .ref d, .int 0])), (d, .inl (X.2 0, 60, .inl (fun _ => 0)))]
set_option maxHeartbeats 1000000 in
theorem n_pad (l : Launch) {X : XV} {h : Nat} : NCon l X 2 3 124 yX2_init cX2_init 1 none [.ref h] [(h, .inr (2, [.null, .int 0, .null]))] (fun _ u => ∃ b c d : Nat, u = padW X h b c d) := by
  refine ncon_of (ini := true) pn_X2_init (Nat.le_of_ble_eq_true rfl) (fun _ => rfl) ?_
  refine gn_al (i := 0) (pl := 0) (by decide +kernel) rfl ?_
  refine gn_obj ol_RX2_3 (Nat.le_of_ble_eq_true rfl) (Nat.le_of_ble_eq_true rfl) (by decide +kernel) ?_
  refine gn_al (i := 0) (pl := 0) (by decide +kernel) rfl ?_
  refine gn_bi (n := 60) (60 : Int32) (by decide +kernel) (by decide) ?_
  refine gn_newc 60 (by decide) (by decide) (Nat.le_of_ble_eq_true rfl) ⟨Nat.le_of_ble_eq_true rfl, Nat.le_of_ble_eq_true rfl⟩ (by decide +kernel) (fun q1 => ?_)
  refine gn_ws (ws' := [(h, .inr (2, [.null, .int 0, .null])), (q1, .inl (X.2 1, 60, .inl (fun _ => 0)))]) rfl ?_
  refine gn_putF 9 2 0 0 (r := (RX2, TX2, 3)) rfl rfl (by decide) (tg 143 (by decide +kernel) (by decide +kernel)) rfl rfl rfl rfl rfl (Nat.le_of_ble_eq_true rfl) (by decide +kernel) ?_
  refine gn_ws (ws' := [(h, .inr (2, [.ref q1, .int 0, .null])), (q1, .inl (X.2 1, 60, .inl (fun _ => 0)))]) rfl ?_
  refine gn_al (i := 0) (pl := 0) (by decide +kernel) rfl ?_
  refine gn_new (idx := 15) 3 (r := (RX3, TX3, 4)) [.int 0, .int 0, .null, .int 0] rfl (tg 141 (by decide +kernel) (by decide +kernel)) (tg 46 (by decide +kernel) (by decide +kernel)) (tg 26 (by decide +kernel) (by decide +kernel)) fs_3 ⟨Nat.le_of_ble_eq_true rfl, Nat.le_of_ble_eq_true rfl⟩ (by decide +kernel) (fun q2 => ?_)
  refine gn_ws (ws' := [(h, .inr (2, [.ref q1, .int 0, .null])), (q1, .inl (X.2 1, 60, .inl (fun _ => 0))), (q2, .inr (3, [.int 0, .int 0, .null, .int 0]))]) rfl ?_
  refine gn_dup (by decide +kernel) ?_
  refine gn_bi (n := 30) (30 : Int32) (by decide +kernel) (by decide) ?_
  refine gn_ic (n := 2) (2 : Int32) (by decide +kernel) (by decide) ?_
  refine gn_callI [.int 30, .int 2] q2 [.ref q2, .ref h] ([(h, .inr (2, [.ref q1, .int 0, .null])), (q1, .inl (X.2 1, 60, .inl (fun _ => 0)))]) [(q2, .inr (3, [.int 0, .int 0, .null, .int 0]))] il_RX2_17 mi_X3_init rfl (n_table l (N := 60) rfl (by decide)) rfl ⟨Nat.le_of_ble_eq_true rfl, Nat.le_of_ble_eq_true rfl⟩ (Nat.le_of_ble_eq_true rfl) ⟨Nat.le_of_ble_eq_true rfl, Nat.le_of_ble_eq_true rfl⟩ rfl rfl (by decide +kernel) (fun u hu => ?_)
  obtain ⟨q3, rfl⟩ := hu
  refine gn_ws (ws' := [(h, .inr (2, [.ref q1, .int 0, .null])), (q1, .inl (X.2 1, 60, .inl (fun _ => 0))), (q2, .inr (3, [.int 30, .int 2, .ref q3, .int 0])), (q3, .inl (X.2 0, 60, .inl (fun _ => 0)))]) rfl ?_
  refine gn_putF 20 2 2 0 (r := (RX2, TX2, 3)) rfl rfl (by decide) (tg 146 (by decide +kernel) (by decide +kernel)) rfl rfl rfl rfl rfl (Nat.le_of_ble_eq_true rfl) (by decide +kernel) ?_
  refine gn_ws (ws' := [(h, .inr (2, [.ref q1, .int 0, .ref q2])), (q1, .inl (X.2 1, 60, .inl (fun _ => 0))), (q2, .inr (3, [.int 30, .int 2, .ref q3, .int 0])), (q3, .inl (X.2 0, 60, .inl (fun _ => 0)))]) rfl ?_
  exact gn_vret (by decide +kernel) ⟨_, _, _, rfl⟩

def housesW (X : XV) (ads : Nat → Nat → Nat) : Nat → va_W
  | 0 => []
  | n + 1 => housesW X ads n ++ houseW X (ads n)
theorem housesW_congr {X : XV} {f g : Nat → Nat → Nat} : ∀ n, (∀ j, j < n → f j = g j) → housesW X f n = housesW X g n
  | 0, _ => rfl
  | n + 1, h => by
    show housesW X f n ++ houseW X (f n) = housesW X g n ++ houseW X (g n)
    rw [housesW_congr n (fun j hj => h j (by omega)), h n (by omega)]
def histF (ads : Nat → Nat → Nat) (i : Nat) : Nat → Option Nat := fun j => if j < i then some (ads j 0) else none
def histW (X : XV) (h a : Nat) (ads : Nat → Nat → Nat) (i : Nat) : va_W := (h, .inr (0, [.ref a, .int 0])) :: (a, .inl (X.2 2, 6, .inr (.inr (.inr (.inr (histF ads i)))))) :: housesW X ads i
set_option maxHeartbeats 1000000 in
theorem n_histL (l : Launch) {X : XV} {h a : Nat} : ∀ (k i : Nat), i + k = 6 → ∀ ads : Nat → Nat → Nat, GN l X 3 67 1980 RX0 cX0_init 2 none true (fun _ u => ∃ (a : Nat) (ads : Nat → Nat → Nat), u = histW X h a ads 6) [(h, .inr (0, [.null, .int 0]))] 15 [(1, .int (nI i)), (0, .ref h)] [] (histW X h a ads i) (1 + 11 * i) (6 + 329 * i) := by
  intro k
  induction k with
  | zero =>
    intro i hi ads
    obtain rfl : i = 6 := by omega
    refine gn_iln (i := 1) (pl := 0) (by decide +kernel) rfl ?_
    refine gn_al (i := 0) (pl := 1) (by decide +kernel) rfl ?_
    refine gn_get fl0_ok 11 0 0 0 (.ref a) (by decide) rfl rfl (by decide +kernel) ?_
    refine gn_alen (v := 6) 1 2 rfl rfl rfl (by decide +kernel) ?_
    refine gn_geT (off := 22) (tgt := 43) (by decide) (by decide +kernel) (by decide) ?_
    exact gn_vret (by decide +kernel) ⟨a, ads, rfl⟩
  | succ k ih =>
    intro i hi ads
    refine gn_iln (i := 1) (pl := 0) (by decide +kernel) rfl ?_
    refine gn_al (i := 0) (pl := 1) (by decide +kernel) rfl ?_
    refine gn_get fl0_ok 11 0 0 0 (.ref a) (by decide) rfl rfl (by decide +kernel) ?_
    refine gn_alen (v := 6) 1 2 rfl rfl rfl (by decide +kernel) ?_
    refine gn_geF (off := 22) (tgt := 43) (fun z => absurd ((nI_leI (a := 6) (by decide) (by omega)).mp z) (by omega)) (by decide +kernel) (by decide) ?_
    refine gn_al (i := 0) (pl := 1) (by decide +kernel) rfl ?_
    refine gn_get fl0_ok 11 0 0 0 (.ref a) (by decide) rfl rfl (by decide +kernel) ?_
    refine gn_iln (i := 1) (pl := 0) (by decide +kernel) rfl ?_
    refine gn_new (idx := 9) 1 (r := (RX1, TX1, 9)) [.null, .null, .null, .null, .null, .int 0, .int 0, .int 0, .int 0] rfl (tg 124 (by decide +kernel) (by decide +kernel)) (tg 40 (by decide +kernel) (by decide +kernel)) (tg 25 (by decide +kernel) (by decide +kernel)) fs_1 ⟨by omega, by show 6 + 329 * i + 9 ≤ 1980; omega⟩ (by decide +kernel) (fun q => ?_)
    refine gn_dup (by decide +kernel) ?_
    refine gn_callI [] q [.ref q, .int (nI i), .ref a] (histW X h a ads i) [(q, .inr (1, [.null, .null, .null, .null, .null, .int 0, .int 0, .int 0, .int 0]))] il_RX0_15 mi_X1_init rfl (n_house l) rfl ⟨Nat.le_of_ble_eq_true rfl, Nat.le_of_ble_eq_true rfl⟩ (Nat.le_of_ble_eq_true rfl) ⟨by omega, by show 6 + 329 * i + 9 + 320 ≤ 1980; omega⟩ rfl rfl (by decide +kernel) (fun u hu => ?_)
    obtain ⟨ad, had, rfl⟩ := hu
    subst had
    refine gn_astq 1 ((histW X h a ads i).length + 0) (n := 6) (f := histF ads i) rfl (nx_r (k := 0) rfl) (vp_in_nI (by omega) (by decide)) (by decide +kernel) ?_
    have e : ((histW X h a ads i ++ houseW X ad).set 1 (a, .inl (X.2 2, 6, .inr (.inr (.inr (.inr (va_up (histF ads i) (nI i).toNatClampNeg (some (ad 0))))))))) = histW X h a (fun j => if j = i then ad else ads j) (i + 1) := by
      have e1 : va_up (histF ads i) (nI i).toNatClampNeg (some (ad 0)) = histF (fun j => if j = i then ad else ads j) (i + 1) := by
        funext j
        rw [nI_clamp (by omega)]
        by_cases hj : j = i
        · subst hj
          simp [va_up, histF]
        · by_cases h2 : j < i
          · simp [va_up, histF, hj, h2, show j < i + 1 by omega]
          · simp [va_up, histF, hj, h2, show ¬ j < i + 1 by omega]
      have e2 : housesW X ads i ++ houseW X ad = housesW X (fun j => if j = i then ad else ads j) (i + 1) := by
        show _ = housesW X (fun j => if j = i then ad else ads j) i ++ houseW X (if i = i then ad else ads i)
        rw [if_pos rfl, housesW_congr i (f := fun j => if j = i then ad else ads j) (g := ads) (fun j hj => if_neg (by omega))]
      show (h, _) :: (a, _) :: (housesW X ads i ++ houseW X ad) = (h, _) :: (a, _) :: housesW X _ (i + 1)
      rw [e1, e2]
    refine gn_ws e ?_
    refine gn_inc (i := 1) (n := 1) (pl := 0) (v := nI (i + 1)) (lv' := [(1, .int (nI (i + 1))), (0, .ref h)]) (by decide +kernel) rfl (nI_succ i).symm (by decide) rfl ?_
    refine gn_goto (off := (-25)) (tgt := 15) (by decide +kernel) (by decide) ?_
    refine gn_wide (c2 := 1 + 11 * (i + 1)) (s2 := 6 + 329 * (i + 1)) (by omega) (by show 6 + 329 * i + 9 + 320 ≤ _; omega) ?_
    exact ih (i + 1) (by omega) _
set_option maxHeartbeats 1000000 in
theorem n_hist (l : Launch) {X : XV} {h : Nat} : NCon l X 3 67 1980 yX0_init cX0_init 2 none [.ref h] [(h, .inr (0, [.null, .int 0]))] (fun _ u => ∃ (a : Nat) (ads : Nat → Nat → Nat), u = histW X h a ads 6) := by
  refine ncon_of (ini := true) pn_X0_init (Nat.le_of_ble_eq_true rfl) (fun _ => rfl) ?_
  refine gn_al (i := 0) (pl := 0) (by decide +kernel) rfl ?_
  refine gn_obj ol_RX0_1 (Nat.le_of_ble_eq_true rfl) (Nat.le_of_ble_eq_true rfl) (by decide +kernel) ?_
  refine gn_al (i := 0) (pl := 0) (by decide +kernel) rfl ?_
  refine gn_bi (n := 6) (6 : Int32) (by decide +kernel) (by decide) ?_
  refine gn_newq (idx := 9) 6 (tg 124 (by decide +kernel) (by decide +kernel)) (by decide) (by decide) (Nat.le_of_ble_eq_true rfl) ⟨Nat.le_of_ble_eq_true rfl, Nat.le_of_ble_eq_true rfl⟩ (by decide +kernel) (fun a => ?_)
  refine gn_ws (ws' := [(h, .inr (0, [.null, .int 0])), (a, .inl (X.2 2, 6, .inr (.inr (.inr (.inr (fun _ => none))))))]) rfl ?_
  refine gn_putF 11 0 0 0 (r := (RX0, TX0, 2)) rfl rfl (by decide) (tg 127 (by decide +kernel) (by decide +kernel)) rfl rfl rfl rfl rfl (Nat.le_of_ble_eq_true rfl) (by decide +kernel) ?_
  refine gn_ws (ws' := histW X h a (fun _ _ => 0) 0) (by
    show (h, _) :: (a, _) :: [] = (h, _) :: (a, _) :: []
    rw [show histF (fun _ _ => 0) 0 = fun _ => none from funext fun j => if_neg (Nat.not_lt_zero j)]
    rfl) ?_
  refine gn_ic (n := 0) (0 : Int32) (by decide +kernel) (by decide) ?_
  refine gn_istn (i := 1) (lv' := [(1, .int 0), (0, .ref h)]) (by decide +kernel) (by decide) rfl ?_
  exact n_histL l 6 0 rfl _

def rotaT (X : XV) (d1 d2 : Nat → Nat) (c a : Nat) (ads : Nat → Nat → Nat) (p0 p1 p2 p3 : Nat) : va_W := houseW X d1 ++ (houseW X d2 ++ (histW X c a ads 6 ++ padW X p0 p1 p2 p3))
set_option maxHeartbeats 2000000 in
theorem n_rota (l : Launch) {X : XV} {h : Nat} : NCon l X 4 94 2767 yX4_init cX4_init 1 none [.ref h] [(h, .inr (4, [.null, .null, .null, .null]))] (fun _ u => ∃ (d1 d2 : Nat → Nat) (c a : Nat) (ads : Nat → Nat → Nat) (p0 p1 p2 p3 : Nat), u = (h, .inr (4, [.ref (d1 0), .ref (d2 0), .ref c, .ref p0])) :: rotaT X d1 d2 c a ads p0 p1 p2 p3) := by
  refine ncon_of (ini := true) pn_X4_init (Nat.le_of_ble_eq_true rfl) (fun _ => rfl) ?_
  refine gn_al (i := 0) (pl := 0) (by decide +kernel) rfl ?_
  refine gn_obj ol_RX4_1 (Nat.le_of_ble_eq_true rfl) (Nat.le_of_ble_eq_true rfl) (by decide +kernel) ?_
  refine gn_al (i := 0) (pl := 0) (by decide +kernel) rfl ?_
  refine gn_new (idx := 7) 1 (r := (RX1, TX1, 9)) [.null, .null, .null, .null, .null, .int 0, .int 0, .int 0, .int 0] rfl (tg 39 (by decide +kernel) (by decide +kernel)) (tg 40 (by decide +kernel) (by decide +kernel)) (tg 25 (by decide +kernel) (by decide +kernel)) fs_1 ⟨Nat.le_of_ble_eq_true rfl, Nat.le_of_ble_eq_true rfl⟩ (by decide +kernel) (fun q1 => ?_)
  refine gn_dup (by decide +kernel) ?_
  refine gn_callI [] q1 [.ref q1, .ref h] ((h, .inr (4, [.null, .null, .null, .null])) :: ([] : va_W)) [(q1, .inr (1, [.null, .null, .null, .null, .null, .int 0, .int 0, .int 0, .int 0]))] il_RX4_9 mi_X1_init rfl (n_house l) rfl ⟨Nat.le_of_ble_eq_true rfl, Nat.le_of_ble_eq_true rfl⟩ (Nat.le_of_ble_eq_true rfl) ⟨Nat.le_of_ble_eq_true rfl, Nat.le_of_ble_eq_true rfl⟩ rfl rfl (by decide +kernel) (fun u hu => ?_)
  obtain ⟨d1, hd1, rfl⟩ := hu
  subst hd1
  refine gn_ws (ws' := (h, .inr (4, [.null, .null, .null, .null])) :: (([] : va_W) ++ houseW X d1)) rfl ?_
  refine gn_putF 10 4 0 0 (r := (RX4, TX4, 4)) rfl rfl (by decide) (tg 156 (by decide +kernel) (by decide +kernel)) rfl rfl rfl rfl rfl (Nat.le_of_ble_eq_true rfl) (by decide +kernel) ?_
  refine gn_ws (ws' := (h, .inr (4, [.ref (d1 0), .null, .null, .null])) :: (([] : va_W) ++ houseW X d1)) rfl ?_
  refine gn_al (i := 0) (pl := 0) (by decide +kernel) rfl ?_
  refine gn_new (idx := 7) 1 (r := (RX1, TX1, 9)) [.null, .null, .null, .null, .null, .int 0, .int 0, .int 0, .int 0] rfl (tg 39 (by decide +kernel) (by decide +kernel)) (tg 40 (by decide +kernel) (by decide +kernel)) (tg 25 (by decide +kernel) (by decide +kernel)) fs_1 ⟨Nat.le_of_ble_eq_true rfl, Nat.le_of_ble_eq_true rfl⟩ (by decide +kernel) (fun q2 => ?_)
  refine gn_dup (by decide +kernel) ?_
  refine gn_callI [] q2 [.ref q2, .ref h] ((h, .inr (4, [.ref (d1 0), .null, .null, .null])) :: (([] : va_W) ++ houseW X d1)) [(q2, .inr (1, [.null, .null, .null, .null, .null, .int 0, .int 0, .int 0, .int 0]))] il_RX4_9 mi_X1_init rfl (n_house l) rfl ⟨Nat.le_of_ble_eq_true rfl, Nat.le_of_ble_eq_true rfl⟩ (Nat.le_of_ble_eq_true rfl) ⟨Nat.le_of_ble_eq_true rfl, Nat.le_of_ble_eq_true rfl⟩ rfl rfl (by decide +kernel) (fun u hu => ?_)
  obtain ⟨d2, hd2, rfl⟩ := hu
  subst hd2
  refine gn_ws (ws' := (h, .inr (4, [.ref (d1 0), .null, .null, .null])) :: ((([] : va_W) ++ houseW X d1) ++ houseW X d2)) rfl ?_
  refine gn_putF 16 4 1 0 (r := (RX4, TX4, 4)) rfl rfl (by decide) (tg 157 (by decide +kernel) (by decide +kernel)) rfl rfl rfl rfl rfl (Nat.le_of_ble_eq_true rfl) (by decide +kernel) ?_
  refine gn_ws (ws' := (h, .inr (4, [.ref (d1 0), .ref (d2 0), .null, .null])) :: ((([] : va_W) ++ houseW X d1) ++ houseW X d2)) rfl ?_
  refine gn_al (i := 0) (pl := 0) (by decide +kernel) rfl ?_
  refine gn_new (idx := 19) 0 (r := (RX0, TX0, 2)) [.null, .int 0] rfl (tg 118 (by decide +kernel) (by decide +kernel)) (tg 119 (by decide +kernel) (by decide +kernel)) (tg 28 (by decide +kernel) (by decide +kernel)) fs_0 ⟨Nat.le_of_ble_eq_true rfl, Nat.le_of_ble_eq_true rfl⟩ (by decide +kernel) (fun c => ?_)
  refine gn_dup (by decide +kernel) ?_
  refine gn_callI [] c [.ref c, .ref h] ((h, .inr (4, [.ref (d1 0), .ref (d2 0), .null, .null])) :: ((([] : va_W) ++ houseW X d1) ++ houseW X d2)) [(c, .inr (0, [.null, .int 0]))] il_RX4_21 mi_X0_init rfl (n_hist l) rfl ⟨Nat.le_of_ble_eq_true rfl, Nat.le_of_ble_eq_true rfl⟩ (Nat.le_of_ble_eq_true rfl) ⟨Nat.le_of_ble_eq_true rfl, Nat.le_of_ble_eq_true rfl⟩ rfl rfl (by decide +kernel) (fun u hu => ?_)
  obtain ⟨a, ads, rfl⟩ := hu
  refine gn_ws (ws' := (h, .inr (4, [.ref (d1 0), .ref (d2 0), .null, .null])) :: (((([] : va_W) ++ houseW X d1) ++ houseW X d2) ++ histW X c a ads 6)) rfl ?_
  refine gn_putF 22 4 2 0 (r := (RX4, TX4, 4)) rfl rfl (by decide) (tg 158 (by decide +kernel) (by decide +kernel)) rfl rfl rfl rfl rfl (Nat.le_of_ble_eq_true rfl) (by decide +kernel) ?_
  refine gn_ws (ws' := (h, .inr (4, [.ref (d1 0), .ref (d2 0), .ref c, .null])) :: (((([] : va_W) ++ houseW X d1) ++ houseW X d2) ++ histW X c a ads 6)) rfl ?_
  refine gn_al (i := 0) (pl := 0) (by decide +kernel) rfl ?_
  refine gn_new (idx := 26) 2 (r := (RX2, TX2, 3)) [.null, .int 0, .null] rfl (tg 135 (by decide +kernel) (by decide +kernel)) (tg 136 (by decide +kernel) (by decide +kernel)) (tg 29 (by decide +kernel) (by decide +kernel)) fs_2 ⟨Nat.le_of_ble_eq_true rfl, Nat.le_of_ble_eq_true rfl⟩ (by decide +kernel) (fun p0 => ?_)
  refine gn_dup (by decide +kernel) ?_
  refine gn_callI [] p0 [.ref p0, .ref h] ((h, .inr (4, [.ref (d1 0), .ref (d2 0), .ref c, .null])) :: (((([] : va_W) ++ houseW X d1) ++ houseW X d2) ++ histW X c a ads 6)) [(p0, .inr (2, [.null, .int 0, .null]))] il_RX4_28 mi_X2_init rfl (n_pad l) rfl ⟨Nat.le_of_ble_eq_true rfl, Nat.le_of_ble_eq_true rfl⟩ (Nat.le_of_ble_eq_true rfl) ⟨Nat.le_of_ble_eq_true rfl, Nat.le_of_ble_eq_true rfl⟩ rfl rfl (by decide +kernel) (fun u hu => ?_)
  obtain ⟨p1, p2, p3, rfl⟩ := hu
  refine gn_ws (ws' := (h, .inr (4, [.ref (d1 0), .ref (d2 0), .ref c, .null])) :: ((((([] : va_W) ++ houseW X d1) ++ houseW X d2) ++ histW X c a ads 6) ++ padW X p0 p1 p2 p3)) rfl ?_
  refine gn_putF 29 4 3 0 (r := (RX4, TX4, 4)) rfl rfl (by decide) (tg 159 (by decide +kernel) (by decide +kernel)) rfl rfl rfl rfl rfl (Nat.le_of_ble_eq_true rfl) (by decide +kernel) ?_
  refine gn_ws (ws' := (h, .inr (4, [.ref (d1 0), .ref (d2 0), .ref c, .ref p0])) :: ((((([] : va_W) ++ houseW X d1) ++ houseW X d2) ++ histW X c a ads 6) ++ padW X p0 p1 p2 p3)) rfl ?_
  exact gn_vret (by decide +kernel) ⟨d1, d2, c, a, ads, p0, p1, p2, p3, by simp only [rotaT, List.nil_append, List.append_assoc]⟩
