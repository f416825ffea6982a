/-! THE CONSTRUCTORS (laid by wip/whole/mk47.py) -/
theorem fs_0 : ∀ j, j < 2 → defaultValue (tyAll 0 j) = vp_V [.null, .int 0] j := fun j hj => by
  rcases (show j = 0 ∨ j = 1 by omega) with rfl | rfl <;> rfl
theorem fs_1 : ∀ j, j < 9 → defaultValue (tyAll 1 j) = vp_V [.null, .null, .null, .null, .null, .int 0, .int 0, .int 0, .int 0] j := fun j hj => by
  rcases (show j = 0 ∨ j = 1 ∨ j = 2 ∨ j = 3 ∨ j = 4 ∨ j = 5 ∨ j = 6 ∨ j = 7 ∨ j = 8 by omega) with rfl | rfl | rfl | rfl | rfl | rfl | rfl | rfl | rfl <;> rfl
theorem fs_2 : ∀ j, j < 3 → defaultValue (tyAll 2 j) = vp_V [.null, .int 0, .null] j := fun j hj => by
  rcases (show j = 0 ∨ j = 1 ∨ j = 2 by omega) with rfl | rfl | rfl <;> rfl
theorem fs_3 : ∀ j, j < 4 → defaultValue (tyAll 3 j) = vp_V [.int 0, .int 0, .null, .int 0] j := fun j hj => by
  rcases (show j = 0 ∨ j = 1 ∨ j = 2 ∨ j = 3 by omega) with rfl | rfl | rfl | rfl <;> rfl
theorem fs_4 : ∀ j, j < 4 → defaultValue (tyAll 4 j) = vp_V [.null, .null, .null, .null] j := fun j hj => by
  rcases (show j = 0 ∨ j = 1 ∨ j = 2 ∨ j = 3 by omega) with rfl | rfl | rfl | rfl <;> rfl
theorem fs_5 : ∀ j, j < 11 → defaultValue (tyAll 5 j) = vp_V [.null, .null, .null, .int 0, .null, .int 0, .int 0, .int 0, .int 0, .null, .int 0] j := fun j hj => by
  rcases (show j = 0 ∨ j = 1 ∨ j = 2 ∨ j = 3 ∨ j = 4 ∨ j = 5 ∨ j = 6 ∨ j = 7 ∨ j = 8 ∨ j = 9 ∨ j = 10 by omega) with rfl | rfl | rfl | rfl | rfl | rfl | rfl | rfl | rfl | rfl | rfl <;> rfl
set_option maxHeartbeats 1000000 in
theorem n_table (l : Launch) {X : XV} {h : Nat} {a b : Int32} {N : Nat} (hab : (if (0 : Int32) < a * b then a * b else 0) = nI N) (hN : N ≤ 60) : NCon l X 1 1 60 yX3_init cX3_init 3 none [.ref h, .int a, .int b] [(h, .inr (3, [.int 0, .int 0, .null, .int 0]))] (fun _ u => ∃ q : Nat, u = [(h, .inr (3, [.int a, .int b, .ref q, .int 0])), (q, .inl (X.2 0, N, .inl (fun _ => 0)))]) := by
  refine ncon_of (ini := true) pn_X3_init (by decide) (fun _ => rfl) ?_
  refine gn_al (pl := 0) (by decide +kernel) rfl ?_
  refine gn_obj ol_RX3_3 (Nat.le_of_ble_eq_true rfl) (Nat.le_of_ble_eq_true rfl) (by decide +kernel) ?_
  refine gn_al (pl := 0) (by decide +kernel) rfl ?_
  refine gn_iln (pl := 1) (by decide +kernel) rfl ?_
  refine gn_putF 9 3 0 0 (r := (RX3, TX3, 4)) rfl rfl (by decide) (tg 93 (by decide +kernel) (by decide +kernel)) rfl rfl rfl rfl rfl (by decide) (by decide +kernel) ?_
  refine gn_ws (ws' := [(h, .inr (3, [.int a, .int 0, .null, .int 0]))]) rfl ?_
  refine gn_al (pl := 0) (by decide +kernel) rfl ?_
  refine gn_iln (pl := 2) (by decide +kernel) rfl ?_
  refine gn_putF 15 3 1 0 (r := (RX3, TX3, 4)) rfl rfl (by decide) (tg 94 (by decide +kernel) (by decide +kernel)) rfl rfl rfl rfl rfl (by decide) (by decide +kernel) ?_
  refine gn_ws (ws' := [(h, .inr (3, [.int a, .int b, .null, .int 0]))]) rfl ?_
  refine gn_al (pl := 0) (by decide +kernel) rfl ?_
  refine gn_ic (0 : Int32) (by decide +kernel) (by decide) ?_
  refine gn_iln (pl := 1) (by decide +kernel) rfl ?_
  refine gn_iln (pl := 2) (by decide +kernel) rfl ?_
  refine gn_mul (by decide +kernel) ?_
  refine gn_max jl_RX3_18 hab (Nat.le_of_ble_eq_true rfl) (Nat.le_of_ble_eq_true rfl) ⟨Nat.le_of_ble_eq_true rfl, Nat.le_of_ble_eq_true rfl⟩ (by decide +kernel) ?_
  refine gn_newi N (nI_pos (by omega)) (nI_clamp (by omega)) (by omega) ⟨Nat.le_of_ble_eq_true rfl, by omega⟩ (by decide +kernel) (fun q1 => ?_)
  refine gn_ws (ws' := [(h, .inr (3, [.int a, .int b, .null, .int 0])), (q1, .inl (X.2 0, N, .inl (fun _ => 0)))]) rfl ?_
  refine gn_putF 24 3 2 0 (r := (RX3, TX3, 4)) rfl rfl (by decide) (tg 95 (by decide +kernel) (by decide +kernel)) rfl rfl rfl rfl rfl (by decide) (by decide +kernel) ?_
  refine gn_ws (ws' := [(h, .inr (3, [.int a, .int b, .ref q1, .int 0])), (q1, .inl (X.2 0, N, .inl (fun _ => 0)))]) rfl ?_
  refine gn_wide (c2 := 1) (s2 := 60) (Nat.le_of_ble_eq_true rfl) (by omega) ?_
  exact gn_vret (by decide +kernel) ⟨_, rfl⟩
theorem n_isFull (l : Launch) {X : XV} {h q : Nat} {f : Nat → Int32} : NCon l X 0 0 0 yX3_isFull cX3_isFull 1 (some .boolean) [.ref h] [(h, .inr (3, [.int 1, .int 4, .ref q, .int 0])), (q, .inl (X.2 0, 4, .inl f))] (fun o u => o = some 0 ∧ u = [(h, .inr (3, [.int 1, .int 4, .ref q, .int 0])), (q, .inl (X.2 0, 4, .inl f))]) := by
  refine ncon_of (ini := false) pn_X3_isFull (by decide) (fun z => absurd z (by decide)) ?_
  refine gn_al (pl := 0) (by decide +kernel) rfl ?_
  refine gn_get fl3_ok 28 3 3 0 (.int 0) (by decide) rfl rfl (by decide +kernel) ?_
  refine gn_al (pl := 0) (by decide +kernel) rfl ?_
  refine gn_get fl3_ok 9 3 0 0 (.int 1) (by decide) rfl rfl (by decide +kernel) ?_
  refine gn_ltT (tgt := 15) (by decide) (by decide +kernel) (by decide) ?_
  refine gn_ic (0 : Int32) (by decide +kernel) (by decide) ?_
  exact gn_zret (by decide +kernel) (Or.inl rfl) ⟨rfl, rfl⟩
set_option maxHeartbeats 1000000 in
theorem n_write (l : Launch) {X : XV} {h q j : Nat} {f : Nat → Int32} {c v : Int32} (hc : c = nI j) (hj : j < 4) : NCon l X 0 0 0 yX3_write cX3_write 5 none [.ref h, .int 0, .int c, .int v] [(h, .inr (3, [.int 1, .int 4, .ref q, .int 1])), (q, .inl (X.2 0, 4, .inl f))] (fun _ u => u = [(h, .inr (3, [.int 1, .int 4, .ref q, .int 1])), (q, .inl (X.2 0, 4, .inl (upd f j v)))]) := by
  subst hc
  refine ncon_of (ini := false) pn_X3_write (by decide) (fun z => absurd z (by decide)) ?_
  refine gn_iln (pl := 1) (by decide +kernel) rfl ?_
  refine gn_lt0 (tgt := 24) (by decide) (by decide +kernel) (by decide) ?_
  refine gn_iln (pl := 1) (by decide +kernel) rfl ?_
  refine gn_al (pl := 0) (by decide +kernel) rfl ?_
  refine gn_get fl3_ok 28 3 3 0 (.int 1) (by decide) rfl rfl (by decide +kernel) ?_
  refine gn_geF (tgt := 24) (by decide) (by decide +kernel) (by decide) ?_
  refine gn_iln (pl := 2) (by decide +kernel) rfl ?_
  refine gn_lt0 (tgt := 24) (nI_pos (by omega)) (by decide +kernel) (by decide) ?_
  refine gn_iln (pl := 2) (by decide +kernel) rfl ?_
  refine gn_al (pl := 0) (by decide +kernel) rfl ?_
  refine gn_get fl3_ok 15 3 1 0 (.int 4) (by decide) rfl rfl (by decide +kernel) ?_
  refine gn_ltT (tgt := 25) ((nI_ltI (b := 4) (by omega) (by decide)).mpr hj) (by decide +kernel) (by decide) ?_
  refine gn_iln (pl := 1) (by decide +kernel) rfl ?_
  refine gn_al (pl := 0) (by decide +kernel) rfl ?_
  refine gn_get fl3_ok 15 3 1 0 (.int 4) (by decide) rfl rfl (by decide +kernel) ?_
  refine gn_mul (by decide +kernel) ?_
  refine gn_iln (pl := 2) (by decide +kernel) rfl ?_
  refine gn_add (by decide +kernel) ?_
  rw [show (0 : Int32) * 4 + nI j = nI j by rw [show (0 : Int32) * 4 = 0 from rfl, Int32.zero_add]]
  refine gn_ist (lv' := [(4, .int (nI j)), (0, .ref h), (1, .int 0), (2, .int (nI j)), (3, .int v)]) (by decide +kernel) (by decide) rfl ?_
  refine gn_il (pl := 0) (by decide +kernel) rfl ?_
  refine gn_al (pl := 1) (by decide +kernel) rfl ?_
  refine gn_get fl3_ok 24 3 2 0 (.ref q) (by decide) rfl rfl (by decide +kernel) ?_
  refine gn_alen (v := 4) 1 0 rfl rfl rfl (by decide +kernel) ?_
  refine gn_geF (tgt := 53) (fun z => absurd ((nI_leI (a := 4) (by decide) (by omega)).mp z) (by omega)) (by decide +kernel) (by decide) ?_
  refine gn_al (pl := 1) (by decide +kernel) rfl ?_
  refine gn_get fl3_ok 24 3 2 0 (.ref q) (by decide) rfl rfl (by decide +kernel) ?_
  refine gn_il (pl := 0) (by decide +kernel) rfl ?_
  refine gn_iln (pl := 4) (by decide +kernel) rfl ?_
  refine gn_iast 1 rfl (vp_in_nI hj (by decide)) (by decide +kernel) ?_
  rw [nI_clamp (by omega)]
  refine gn_ws (ws' := [(h, .inr (3, [.int 1, .int 4, .ref q, .int 1])), (q, .inl (X.2 0, 4, .inl (upd f j v)))]) rfl ?_
  exact gn_vret (by decide +kernel) rfl
set_option maxHeartbeats 1000000 in
theorem n_append (l : Launch) {X : XV} {h q : Nat} : NCon l X 1 0 0 yX3_append cX3_append 3 (some .int) [.ref h] [(h, .inr (3, [.int 1, .int 4, .ref q, .int 0])), (q, .inl (X.2 0, 4, .inl (fun _ => 0)))] (fun o u => o = some 0 ∧ u = [(h, .inr (3, [.int 1, .int 4, .ref q, .int 1])), (q, .inl (X.2 0, 4, .inl (upd (upd (upd (upd (fun _ => 0) 0 0) 1 0) 2 0) 3 0)))]) := by
  refine ncon_of (ini := false) pn_X3_append (by decide) (fun z => absurd z (by decide)) ?_
  refine gn_al (pl := 0) (by decide +kernel) rfl ?_
  refine gn_callV [] h [] [] [(h, .inr (3, [.int 1, .int 4, .ref q, .int 0])), (q, .inl (X.2 0, 4, .inl (fun _ => 0)))] 0 3 (r := (RX3, TX3, 4)) vl_RX3_38 mi_X3_isFull (n_isFull l) rfl rfl rfl rfl ⟨Nat.le_of_ble_eq_true rfl, Nat.le_of_ble_eq_true rfl⟩ (Nat.le_of_ble_eq_true rfl) ⟨Nat.le_of_ble_eq_true rfl, Nat.le_of_ble_eq_true rfl⟩ rfl rfl (by decide +kernel) (fun o u _ hu => ?_)
  obtain ⟨rfl, rfl⟩ := hu
  refine gn_eqT (tgt := 10) (by decide +kernel) (by decide) ?_
  refine gn_ws (ws' := [(h, .inr (3, [.int 1, .int 4, .ref q, .int 0])), (q, .inl (X.2 0, 4, .inl (fun _ => 0)))]) rfl ?_
  refine gn_al (pl := 0) (by decide +kernel) rfl ?_
  refine gn_dup (by decide +kernel) ?_
  refine gn_get fl3_ok 28 3 3 0 (.int 0) (by decide) rfl rfl (by decide +kernel) ?_
  refine gn_ic (1 : Int32) (by decide +kernel) (by decide) ?_
  refine gn_add (by decide +kernel) ?_
  rw [show (0 : Int32) + 1 = 1 from rfl]
  refine gn_put 28 3 3 0 (r := (RX3, TX3, 4)) rfl (by decide) (tg 96 (by decide +kernel) (by decide +kernel)) rfl rfl rfl rfl (by decide) (by decide +kernel) ?_
  refine gn_ws (ws' := [(h, .inr (3, [.int 1, .int 4, .ref q, .int 1])), (q, .inl (X.2 0, 4, .inl (fun _ => 0)))]) rfl ?_
  refine gn_al (pl := 0) (by decide +kernel) rfl ?_
  refine gn_get fl3_ok 28 3 3 0 (.int 1) (by decide) rfl rfl (by decide +kernel) ?_
  refine gn_ic (1 : Int32) (by decide +kernel) (by decide) ?_
  refine gn_sub (by decide +kernel) ?_
  rw [show (1 : Int32) - 1 = 0 from rfl]
  refine gn_istn (lv' := [(1, .int 0), (0, .ref h)]) (by decide +kernel) (by decide) rfl ?_
  refine gn_ic (0 : Int32) (by decide +kernel) (by decide) ?_
  refine gn_istn (lv' := [(2, .int 0), (1, .int 0), (0, .ref h)]) (by decide +kernel) (by decide) rfl ?_
  refine gn_iln (pl := 0) (by decide +kernel) rfl ?_
  refine gn_al (pl := 2) (by decide +kernel) rfl ?_
  refine gn_get fl3_ok 15 3 1 0 (.int 4) (by decide) rfl rfl (by decide +kernel) ?_
  refine gn_geF (tgt := 50) (by decide) (by decide +kernel) (by decide) ?_
  refine gn_al (pl := 2) (by decide +kernel) rfl ?_
  refine gn_iln (pl := 1) (by decide +kernel) rfl ?_
  refine gn_iln (pl := 0) (by decide +kernel) rfl ?_
  refine gn_ic (0 : Int32) (by decide +kernel) (by decide) ?_
  refine gn_callV [.int 0, .int 0, .int 0] h [] [] [(h, .inr (3, [.int 1, .int 4, .ref q, .int 1])), (q, .inl (X.2 0, 4, .inl (fun _ => 0)))] 0 3 (r := (RX3, TX3, 4)) vl_RX3_34 mi_X3_write (n_write l (j := 0) rfl (by decide)) rfl rfl rfl rfl ⟨Nat.le_of_ble_eq_true rfl, Nat.le_of_ble_eq_true rfl⟩ (Nat.le_of_ble_eq_true rfl) ⟨Nat.le_of_ble_eq_true rfl, Nat.le_of_ble_eq_true rfl⟩ rfl rfl (by decide +kernel) (fun o u ho hu => ?_)
  have ho : o = none := by cases o with | none => rfl | some z => exact Bool.noConfusion ho
  subst ho
  obtain rfl := hu
  refine gn_ws (ws' := [(h, .inr (3, [.int 1, .int 4, .ref q, .int 1])), (q, .inl (X.2 0, 4, .inl (upd (fun _ => 0) 0 0)))]) rfl ?_
  refine gn_inc (pl := 0) (v := 1) (lv' := [(2, .int 1), (1, .int 0), (0, .ref h)]) (by decide +kernel) rfl (by decide) (by decide) rfl ?_
  refine gn_goto (tgt := 29) (by decide +kernel) (by decide) ?_
  refine gn_iln (pl := 0) (by decide +kernel) rfl ?_
  refine gn_al (pl := 2) (by decide +kernel) rfl ?_
  refine gn_get fl3_ok 15 3 1 0 (.int 4) (by decide) rfl rfl (by decide +kernel) ?_
  refine gn_geF (tgt := 50) (by decide) (by decide +kernel) (by decide) ?_
  refine gn_al (pl := 2) (by decide +kernel) rfl ?_
  refine gn_iln (pl := 1) (by decide +kernel) rfl ?_
  refine gn_iln (pl := 0) (by decide +kernel) rfl ?_
  refine gn_ic (0 : Int32) (by decide +kernel) (by decide) ?_
  refine gn_callV [.int 0, .int 1, .int 0] h [] [] [(h, .inr (3, [.int 1, .int 4, .ref q, .int 1])), (q, .inl (X.2 0, 4, .inl (upd (fun _ => 0) 0 0)))] 0 3 (r := (RX3, TX3, 4)) vl_RX3_34 mi_X3_write (n_write l (j := 1) rfl (by decide)) rfl rfl rfl rfl ⟨Nat.le_of_ble_eq_true rfl, Nat.le_of_ble_eq_true rfl⟩ (Nat.le_of_ble_eq_true rfl) ⟨Nat.le_of_ble_eq_true rfl, Nat.le_of_ble_eq_true rfl⟩ rfl rfl (by decide +kernel) (fun o u ho hu => ?_)
  have ho : o = none := by cases o with | none => rfl | some z => exact Bool.noConfusion ho
  subst ho
  obtain rfl := hu
  refine gn_ws (ws' := [(h, .inr (3, [.int 1, .int 4, .ref q, .int 1])), (q, .inl (X.2 0, 4, .inl (upd (upd (fun _ => 0) 0 0) 1 0)))]) rfl ?_
  refine gn_inc (pl := 0) (v := 2) (lv' := [(2, .int 2), (1, .int 0), (0, .ref h)]) (by decide +kernel) rfl (by decide) (by decide) rfl ?_
  refine gn_goto (tgt := 29) (by decide +kernel) (by decide) ?_
  refine gn_iln (pl := 0) (by decide +kernel) rfl ?_
  refine gn_al (pl := 2) (by decide +kernel) rfl ?_
  refine gn_get fl3_ok 15 3 1 0 (.int 4) (by decide) rfl rfl (by decide +kernel) ?_
  refine gn_geF (tgt := 50) (by decide) (by decide +kernel) (by decide) ?_
  refine gn_al (pl := 2) (by decide +kernel) rfl ?_
  refine gn_iln (pl := 1) (by decide +kernel) rfl ?_
  refine gn_iln (pl := 0) (by decide +kernel) rfl ?_
  refine gn_ic (0 : Int32) (by decide +kernel) (by decide) ?_
  refine gn_callV [.int 0, .int 2, .int 0] h [] [] [(h, .inr (3, [.int 1, .int 4, .ref q, .int 1])), (q, .inl (X.2 0, 4, .inl (upd (upd (fun _ => 0) 0 0) 1 0)))] 0 3 (r := (RX3, TX3, 4)) vl_RX3_34 mi_X3_write (n_write l (j := 2) rfl (by decide)) rfl rfl rfl rfl ⟨Nat.le_of_ble_eq_true rfl, Nat.le_of_ble_eq_true rfl⟩ (Nat.le_of_ble_eq_true rfl) ⟨Nat.le_of_ble_eq_true rfl, Nat.le_of_ble_eq_true rfl⟩ rfl rfl (by decide +kernel) (fun o u ho hu => ?_)
  have ho : o = none := by cases o with | none => rfl | some z => exact Bool.noConfusion ho
  subst ho
  obtain rfl := hu
  refine gn_ws (ws' := [(h, .inr (3, [.int 1, .int 4, .ref q, .int 1])), (q, .inl (X.2 0, 4, .inl (upd (upd (upd (fun _ => 0) 0 0) 1 0) 2 0)))]) rfl ?_
  refine gn_inc (pl := 0) (v := 3) (lv' := [(2, .int 3), (1, .int 0), (0, .ref h)]) (by decide +kernel) rfl (by decide) (by decide) rfl ?_
  refine gn_goto (tgt := 29) (by decide +kernel) (by decide) ?_
  refine gn_iln (pl := 0) (by decide +kernel) rfl ?_
  refine gn_al (pl := 2) (by decide +kernel) rfl ?_
  refine gn_get fl3_ok 15 3 1 0 (.int 4) (by decide) rfl rfl (by decide +kernel) ?_
  refine gn_geF (tgt := 50) (by decide) (by decide +kernel) (by decide) ?_
  refine gn_al (pl := 2) (by decide +kernel) rfl ?_
  refine gn_iln (pl := 1) (by decide +kernel) rfl ?_
  refine gn_iln (pl := 0) (by decide +kernel) rfl ?_
  refine gn_ic (0 : Int32) (by decide +kernel) (by decide) ?_
  refine gn_callV [.int 0, .int 3, .int 0] h [] [] [(h, .inr (3, [.int 1, .int 4, .ref q, .int 1])), (q, .inl (X.2 0, 4, .inl (upd (upd (upd (fun _ => 0) 0 0) 1 0) 2 0)))] 0 3 (r := (RX3, TX3, 4)) vl_RX3_34 mi_X3_write (n_write l (j := 3) rfl (by decide)) rfl rfl rfl rfl ⟨Nat.le_of_ble_eq_true rfl, Nat.le_of_ble_eq_true rfl⟩ (Nat.le_of_ble_eq_true rfl) ⟨Nat.le_of_ble_eq_true rfl, Nat.le_of_ble_eq_true rfl⟩ rfl rfl (by decide +kernel) (fun o u ho hu => ?_)
  have ho : o = none := by cases o with | none => rfl | some z => exact Bool.noConfusion ho
  subst ho
  obtain rfl := hu
  refine gn_ws (ws' := [(h, .inr (3, [.int 1, .int 4, .ref q, .int 1])), (q, .inl (X.2 0, 4, .inl (upd (upd (upd (upd (fun _ => 0) 0 0) 1 0) 2 0) 3 0)))]) rfl ?_
  refine gn_inc (pl := 0) (v := 4) (lv' := [(2, .int 4), (1, .int 0), (0, .ref h)]) (by decide +kernel) rfl (by decide) (by decide) rfl ?_
  refine gn_goto (tgt := 29) (by decide +kernel) (by decide) ?_
  refine gn_iln (pl := 0) (by decide +kernel) rfl ?_
  refine gn_al (pl := 2) (by decide +kernel) rfl ?_
  refine gn_get fl3_ok 15 3 1 0 (.int 4) (by decide) rfl rfl (by decide +kernel) ?_
  refine gn_geT (tgt := 50) (by decide) (by decide +kernel) (by decide) ?_
  refine gn_iln (pl := 1) (by decide +kernel) rfl ?_
  exact gn_iret (by decide +kernel) ⟨rfl, rfl⟩
def setC : Nat → Int32 := (upd (upd (upd (upd (upd (upd (upd (upd (fun _ => 0) 0 0) 1 0) 2 0) 3 0) 0 20) 1 25) 2 3) 3 250)
def houseW (X : XV) (ad : Nat → Nat) : va_W := [(ad 0, .inr (1, [.ref (ad 1), .ref (ad 3), .ref (ad 5), .ref (ad 7), .ref (ad 9), .int 0, .int 0, .int 0, .int 0])), (ad 1, .inr (3, [.int 8, .int 7, .ref (ad 2), .int 0])), (ad 2, .inl (X.2 0, 56, .inl (fun _ => 0))), (ad 3, .inr (3, [.int 6, .int 5, .ref (ad 4), .int 0])), (ad 4, .inl (X.2 0, 30, .inl (fun _ => 0))), (ad 5, .inr (3, [.int 12, .int 5, .ref (ad 6), .int 0])), (ad 6, .inl (X.2 0, 60, .inl (fun _ => 0))), (ad 7, .inr (3, [.int 6, .int 2, .ref (ad 8), .int 0])), (ad 8, .inl (X.2 0, 12, .inl (fun _ => 0))), (ad 9, .inr (3, [.int 1, .int 4, .ref (ad 10), .int 1])), (ad 10, .inl (X.2 0, 4, .inl setC))]
set_option maxHeartbeats 4000000 in
theorem n_house (l : Launch) {X : XV} {h : Nat} : NCon l X 2 10 320 yX1_init cX1_init 1 none [.ref h] [(h, .inr (1, [.null, .null, .null, .null, .null, .int 0, .int 0, .int 0, .int 0]))] (fun _ u => ∃ ad : Nat → Nat, ad 0 = h ∧ u = houseW X ad) := by
  refine ncon_of (ini := true) pn_X1_init (by decide) (fun _ => rfl) ?_
  refine gn_al (pl := 0) (by decide +kernel) rfl ?_
  refine gn_obj ol_RX1_5 (Nat.le_of_ble_eq_true rfl) (Nat.le_of_ble_eq_true rfl) (by decide +kernel) ?_
  refine gn_al (pl := 0) (by decide +kernel) rfl ?_
  refine gn_new 3 (r := (RX3, TX3, 4)) [.int 0, .int 0, .null, .int 0] rfl (tg 84 (by decide +kernel) (by decide +kernel)) (tg 85 (by decide +kernel) (by decide +kernel)) (tg 64 (by decide +kernel) (by decide +kernel)) fs_3 ⟨Nat.le_of_ble_eq_true rfl, Nat.le_of_ble_eq_true rfl⟩ (by decide +kernel) (fun q1 => ?_)
  refine gn_ws (ws' := [(h, .inr (1, [.null, .null, .null, .null, .null, .int 0, .int 0, .int 0, .int 0])), (q1, .inr (3, [.int 0, .int 0, .null, .int 0]))]) rfl ?_
  refine gn_dup (by decide +kernel) ?_
  refine gn_bi (8 : Int32) (by decide +kernel) (by decide) ?_
  refine gn_bi (7 : Int32) (by decide +kernel) (by decide) ?_
  refine gn_callI [.int 8, .int 7] q1 [.ref q1, .ref h] ([(h, .inr (1, [.null, .null, .null, .null, .null, .int 0, .int 0, .int 0, .int 0]))]) [(q1, .inr (3, [.int 0, .int 0, .null, .int 0]))] il_RX1_13 mi_X3_init rfl (n_table l (N := 56) rfl (by decide)) rfl ⟨Nat.le_of_ble_eq_true rfl, Nat.le_of_ble_eq_true rfl⟩ (Nat.le_of_ble_eq_true rfl) ⟨Nat.le_of_ble_eq_true rfl, Nat.le_of_ble_eq_true rfl⟩ rfl rfl (by decide +kernel) (fun u hu => ?_)
  obtain ⟨q2, rfl⟩ := hu
  refine gn_ws (ws' := [(h, .inr (1, [.null, .null, .null, .null, .null, .int 0, .int 0, .int 0, .int 0])), (q1, .inr (3, [.int 8, .int 7, .ref q2, .int 0])), (q2, .inl (X.2 0, 56, .inl (fun _ => 0)))]) rfl ?_
  refine gn_putF 16 1 0 0 (r := (RX1, TX1, 9)) rfl rfl (by decide) (tg 120 (by decide +kernel) (by decide +kernel)) rfl rfl rfl rfl rfl (by decide) (by decide +kernel) ?_
  refine gn_ws (ws' := [(h, .inr (1, [.ref q1, .null, .null, .null, .null, .int 0, .int 0, .int 0, .int 0])), (q1, .inr (3, [.int 8, .int 7, .ref q2, .int 0])), (q2, .inl (X.2 0, 56, .inl (fun _ => 0)))]) rfl ?_
  refine gn_al (pl := 0) (by decide +kernel) rfl ?_
  refine gn_new 3 (r := (RX3, TX3, 4)) [.int 0, .int 0, .null, .int 0] rfl (tg 84 (by decide +kernel) (by decide +kernel)) (tg 85 (by decide +kernel) (by decide +kernel)) (tg 64 (by decide +kernel) (by decide +kernel)) fs_3 ⟨Nat.le_of_ble_eq_true rfl, Nat.le_of_ble_eq_true rfl⟩ (by decide +kernel) (fun q3 => ?_)
  refine gn_ws (ws' := [(h, .inr (1, [.ref q1, .null, .null, .null, .null, .int 0, .int 0, .int 0, .int 0])), (q1, .inr (3, [.int 8, .int 7, .ref q2, .int 0])), (q2, .inl (X.2 0, 56, .inl (fun _ => 0))), (q3, .inr (3, [.int 0, .int 0, .null, .int 0]))]) rfl ?_
  refine gn_dup (by decide +kernel) ?_
  refine gn_bi (6 : Int32) (by decide +kernel) (by decide) ?_
  refine gn_ic (5 : Int32) (by decide +kernel) (by decide) ?_
  refine gn_callI [.int 6, .int 5] q3 [.ref q3, .ref h] ([(h, .inr (1, [.ref q1, .null, .null, .null, .null, .int 0, .int 0, .int 0, .int 0])), (q1, .inr (3, [.int 8, .int 7, .ref q2, .int 0])), (q2, .inl (X.2 0, 56, .inl (fun _ => 0)))]) [(q3, .inr (3, [.int 0, .int 0, .null, .int 0]))] il_RX1_13 mi_X3_init rfl (n_table l (N := 30) rfl (by decide)) rfl ⟨Nat.le_of_ble_eq_true rfl, Nat.le_of_ble_eq_true rfl⟩ (Nat.le_of_ble_eq_true rfl) ⟨Nat.le_of_ble_eq_true rfl, Nat.le_of_ble_eq_true rfl⟩ rfl rfl (by decide +kernel) (fun u hu => ?_)
  obtain ⟨q4, rfl⟩ := hu
  refine gn_ws (ws' := [(h, .inr (1, [.ref q1, .null, .null, .null, .null, .int 0, .int 0, .int 0, .int 0])), (q1, .inr (3, [.int 8, .int 7, .ref q2, .int 0])), (q2, .inl (X.2 0, 56, .inl (fun _ => 0))), (q3, .inr (3, [.int 6, .int 5, .ref q4, .int 0])), (q4, .inl (X.2 0, 30, .inl (fun _ => 0)))]) rfl ?_
  refine gn_putF 20 1 1 0 (r := (RX1, TX1, 9)) rfl rfl (by decide) (tg 122 (by decide +kernel) (by decide +kernel)) rfl rfl rfl rfl rfl (by decide) (by decide +kernel) ?_
  refine gn_ws (ws' := [(h, .inr (1, [.ref q1, .ref q3, .null, .null, .null, .int 0, .int 0, .int 0, .int 0])), (q1, .inr (3, [.int 8, .int 7, .ref q2, .int 0])), (q2, .inl (X.2 0, 56, .inl (fun _ => 0))), (q3, .inr (3, [.int 6, .int 5, .ref q4, .int 0])), (q4, .inl (X.2 0, 30, .inl (fun _ => 0)))]) rfl ?_
  refine gn_al (pl := 0) (by decide +kernel) rfl ?_
  refine gn_new 3 (r := (RX3, TX3, 4)) [.int 0, .int 0, .null, .int 0] rfl (tg 84 (by decide +kernel) (by decide +kernel)) (tg 85 (by decide +kernel) (by decide +kernel)) (tg 64 (by decide +kernel) (by decide +kernel)) fs_3 ⟨Nat.le_of_ble_eq_true rfl, Nat.le_of_ble_eq_true rfl⟩ (by decide +kernel) (fun q5 => ?_)
  refine gn_ws (ws' := [(h, .inr (1, [.ref q1, .ref q3, .null, .null, .null, .int 0, .int 0, .int 0, .int 0])), (q1, .inr (3, [.int 8, .int 7, .ref q2, .int 0])), (q2, .inl (X.2 0, 56, .inl (fun _ => 0))), (q3, .inr (3, [.int 6, .int 5, .ref q4, .int 0])), (q4, .inl (X.2 0, 30, .inl (fun _ => 0))), (q5, .inr (3, [.int 0, .int 0, .null, .int 0]))]) rfl ?_
  refine gn_dup (by decide +kernel) ?_
  refine gn_bi (12 : Int32) (by decide +kernel) (by decide) ?_
  refine gn_ic (5 : Int32) (by decide +kernel) (by decide) ?_
  refine gn_callI [.int 12, .int 5] q5 [.ref q5, .ref h] ([(h, .inr (1, [.ref q1, .ref q3, .null, .null, .null, .int 0, .int 0, .int 0, .int 0])), (q1, .inr (3, [.int 8, .int 7, .ref q2, .int 0])), (q2, .inl (X.2 0, 56, .inl (fun _ => 0))), (q3, .inr (3, [.int 6, .int 5, .ref q4, .int 0])), (q4, .inl (X.2 0, 30, .inl (fun _ => 0)))]) [(q5, .inr (3, [.int 0, .int 0, .null, .int 0]))] il_RX1_13 mi_X3_init rfl (n_table l (N := 60) rfl (by decide)) rfl ⟨Nat.le_of_ble_eq_true rfl, Nat.le_of_ble_eq_true rfl⟩ (Nat.le_of_ble_eq_true rfl) ⟨Nat.le_of_ble_eq_true rfl, Nat.le_of_ble_eq_true rfl⟩ rfl rfl (by decide +kernel) (fun u hu => ?_)
  obtain ⟨q6, rfl⟩ := hu
  refine gn_ws (ws' := [(h, .inr (1, [.ref q1, .ref q3, .null, .null, .null, .int 0, .int 0, .int 0, .int 0])), (q1, .inr (3, [.int 8, .int 7, .ref q2, .int 0])), (q2, .inl (X.2 0, 56, .inl (fun _ => 0))), (q3, .inr (3, [.int 6, .int 5, .ref q4, .int 0])), (q4, .inl (X.2 0, 30, .inl (fun _ => 0))), (q5, .inr (3, [.int 12, .int 5, .ref q6, .int 0])), (q6, .inl (X.2 0, 60, .inl (fun _ => 0)))]) rfl ?_
  refine gn_putF 23 1 2 0 (r := (RX1, TX1, 9)) rfl rfl (by decide) (tg 124 (by decide +kernel) (by decide +kernel)) rfl rfl rfl rfl rfl (by decide) (by decide +kernel) ?_
  refine gn_ws (ws' := [(h, .inr (1, [.ref q1, .ref q3, .ref q5, .null, .null, .int 0, .int 0, .int 0, .int 0])), (q1, .inr (3, [.int 8, .int 7, .ref q2, .int 0])), (q2, .inl (X.2 0, 56, .inl (fun _ => 0))), (q3, .inr (3, [.int 6, .int 5, .ref q4, .int 0])), (q4, .inl (X.2 0, 30, .inl (fun _ => 0))), (q5, .inr (3, [.int 12, .int 5, .ref q6, .int 0])), (q6, .inl (X.2 0, 60, .inl (fun _ => 0)))]) rfl ?_
  refine gn_al (pl := 0) (by decide +kernel) rfl ?_
  refine gn_new 3 (r := (RX3, TX3, 4)) [.int 0, .int 0, .null, .int 0] rfl (tg 84 (by decide +kernel) (by decide +kernel)) (tg 85 (by decide +kernel) (by decide +kernel)) (tg 64 (by decide +kernel) (by decide +kernel)) fs_3 ⟨Nat.le_of_ble_eq_true rfl, Nat.le_of_ble_eq_true rfl⟩ (by decide +kernel) (fun q7 => ?_)
  refine gn_ws (ws' := [(h, .inr (1, [.ref q1, .ref q3, .ref q5, .null, .null, .int 0, .int 0, .int 0, .int 0])), (q1, .inr (3, [.int 8, .int 7, .ref q2, .int 0])), (q2, .inl (X.2 0, 56, .inl (fun _ => 0))), (q3, .inr (3, [.int 6, .int 5, .ref q4, .int 0])), (q4, .inl (X.2 0, 30, .inl (fun _ => 0))), (q5, .inr (3, [.int 12, .int 5, .ref q6, .int 0])), (q6, .inl (X.2 0, 60, .inl (fun _ => 0))), (q7, .inr (3, [.int 0, .int 0, .null, .int 0]))]) rfl ?_
  refine gn_dup (by decide +kernel) ?_
  refine gn_bi (6 : Int32) (by decide +kernel) (by decide) ?_
  refine gn_ic (2 : Int32) (by decide +kernel) (by decide) ?_
  refine gn_callI [.int 6, .int 2] q7 [.ref q7, .ref h] ([(h, .inr (1, [.ref q1, .ref q3, .ref q5, .null, .null, .int 0, .int 0, .int 0, .int 0])), (q1, .inr (3, [.int 8, .int 7, .ref q2, .int 0])), (q2, .inl (X.2 0, 56, .inl (fun _ => 0))), (q3, .inr (3, [.int 6, .int 5, .ref q4, .int 0])), (q4, .inl (X.2 0, 30, .inl (fun _ => 0))), (q5, .inr (3, [.int 12, .int 5, .ref q6, .int 0])), (q6, .inl (X.2 0, 60, .inl (fun _ => 0)))]) [(q7, .inr (3, [.int 0, .int 0, .null, .int 0]))] il_RX1_13 mi_X3_init rfl (n_table l (N := 12) rfl (by decide)) rfl ⟨Nat.le_of_ble_eq_true rfl, Nat.le_of_ble_eq_true rfl⟩ (Nat.le_of_ble_eq_true rfl) ⟨Nat.le_of_ble_eq_true rfl, Nat.le_of_ble_eq_true rfl⟩ rfl rfl (by decide +kernel) (fun u hu => ?_)
  obtain ⟨q8, rfl⟩ := hu
  refine gn_ws (ws' := [(h, .inr (1, [.ref q1, .ref q3, .ref q5, .null, .null, .int 0, .int 0, .int 0, .int 0])), (q1, .inr (3, [.int 8, .int 7, .ref q2, .int 0])), (q2, .inl (X.2 0, 56, .inl (fun _ => 0))), (q3, .inr (3, [.int 6, .int 5, .ref q4, .int 0])), (q4, .inl (X.2 0, 30, .inl (fun _ => 0))), (q5, .inr (3, [.int 12, .int 5, .ref q6, .int 0])), (q6, .inl (X.2 0, 60, .inl (fun _ => 0))), (q7, .inr (3, [.int 6, .int 2, .ref q8, .int 0])), (q8, .inl (X.2 0, 12, .inl (fun _ => 0)))]) rfl ?_
  refine gn_putF 26 1 3 0 (r := (RX1, TX1, 9)) rfl rfl (by decide) (tg 126 (by decide +kernel) (by decide +kernel)) rfl rfl rfl rfl rfl (by decide) (by decide +kernel) ?_
  refine gn_ws (ws' := [(h, .inr (1, [.ref q1, .ref q3, .ref q5, .ref q7, .null, .int 0, .int 0, .int 0, .int 0])), (q1, .inr (3, [.int 8, .int 7, .ref q2, .int 0])), (q2, .inl (X.2 0, 56, .inl (fun _ => 0))), (q3, .inr (3, [.int 6, .int 5, .ref q4, .int 0])), (q4, .inl (X.2 0, 30, .inl (fun _ => 0))), (q5, .inr (3, [.int 12, .int 5, .ref q6, .int 0])), (q6, .inl (X.2 0, 60, .inl (fun _ => 0))), (q7, .inr (3, [.int 6, .int 2, .ref q8, .int 0])), (q8, .inl (X.2 0, 12, .inl (fun _ => 0)))]) rfl ?_
  refine gn_al (pl := 0) (by decide +kernel) rfl ?_
  refine gn_new 3 (r := (RX3, TX3, 4)) [.int 0, .int 0, .null, .int 0] rfl (tg 84 (by decide +kernel) (by decide +kernel)) (tg 85 (by decide +kernel) (by decide +kernel)) (tg 64 (by decide +kernel) (by decide +kernel)) fs_3 ⟨Nat.le_of_ble_eq_true rfl, Nat.le_of_ble_eq_true rfl⟩ (by decide +kernel) (fun q9 => ?_)
  refine gn_ws (ws' := [(h, .inr (1, [.ref q1, .ref q3, .ref q5, .ref q7, .null, .int 0, .int 0, .int 0, .int 0])), (q1, .inr (3, [.int 8, .int 7, .ref q2, .int 0])), (q2, .inl (X.2 0, 56, .inl (fun _ => 0))), (q3, .inr (3, [.int 6, .int 5, .ref q4, .int 0])), (q4, .inl (X.2 0, 30, .inl (fun _ => 0))), (q5, .inr (3, [.int 12, .int 5, .ref q6, .int 0])), (q6, .inl (X.2 0, 60, .inl (fun _ => 0))), (q7, .inr (3, [.int 6, .int 2, .ref q8, .int 0])), (q8, .inl (X.2 0, 12, .inl (fun _ => 0))), (q9, .inr (3, [.int 0, .int 0, .null, .int 0]))]) rfl ?_
  refine gn_dup (by decide +kernel) ?_
  refine gn_ic (1 : Int32) (by decide +kernel) (by decide) ?_
  refine gn_ic (4 : Int32) (by decide +kernel) (by decide) ?_
  refine gn_callI [.int 1, .int 4] q9 [.ref q9, .ref h] ([(h, .inr (1, [.ref q1, .ref q3, .ref q5, .ref q7, .null, .int 0, .int 0, .int 0, .int 0])), (q1, .inr (3, [.int 8, .int 7, .ref q2, .int 0])), (q2, .inl (X.2 0, 56, .inl (fun _ => 0))), (q3, .inr (3, [.int 6, .int 5, .ref q4, .int 0])), (q4, .inl (X.2 0, 30, .inl (fun _ => 0))), (q5, .inr (3, [.int 12, .int 5, .ref q6, .int 0])), (q6, .inl (X.2 0, 60, .inl (fun _ => 0))), (q7, .inr (3, [.int 6, .int 2, .ref q8, .int 0])), (q8, .inl (X.2 0, 12, .inl (fun _ => 0)))]) [(q9, .inr (3, [.int 0, .int 0, .null, .int 0]))] il_RX1_13 mi_X3_init rfl (n_table l (N := 4) rfl (by decide)) rfl ⟨Nat.le_of_ble_eq_true rfl, Nat.le_of_ble_eq_true rfl⟩ (Nat.le_of_ble_eq_true rfl) ⟨Nat.le_of_ble_eq_true rfl, Nat.le_of_ble_eq_true rfl⟩ rfl rfl (by decide +kernel) (fun u hu => ?_)
  obtain ⟨q10, rfl⟩ := hu
  refine gn_ws (ws' := [(h, .inr (1, [.ref q1, .ref q3, .ref q5, .ref q7, .null, .int 0, .int 0, .int 0, .int 0])), (q1, .inr (3, [.int 8, .int 7, .ref q2, .int 0])), (q2, .inl (X.2 0, 56, .inl (fun _ => 0))), (q3, .inr (3, [.int 6, .int 5, .ref q4, .int 0])), (q4, .inl (X.2 0, 30, .inl (fun _ => 0))), (q5, .inr (3, [.int 12, .int 5, .ref q6, .int 0])), (q6, .inl (X.2 0, 60, .inl (fun _ => 0))), (q7, .inr (3, [.int 6, .int 2, .ref q8, .int 0])), (q8, .inl (X.2 0, 12, .inl (fun _ => 0))), (q9, .inr (3, [.int 1, .int 4, .ref q10, .int 0])), (q10, .inl (X.2 0, 4, .inl (fun _ => 0)))]) rfl ?_
  refine gn_putF 29 1 4 0 (r := (RX1, TX1, 9)) rfl rfl (by decide) (tg 128 (by decide +kernel) (by decide +kernel)) rfl rfl rfl rfl rfl (by decide) (by decide +kernel) ?_
  refine gn_ws (ws' := [(h, .inr (1, [.ref q1, .ref q3, .ref q5, .ref q7, .ref q9, .int 0, .int 0, .int 0, .int 0])), (q1, .inr (3, [.int 8, .int 7, .ref q2, .int 0])), (q2, .inl (X.2 0, 56, .inl (fun _ => 0))), (q3, .inr (3, [.int 6, .int 5, .ref q4, .int 0])), (q4, .inl (X.2 0, 30, .inl (fun _ => 0))), (q5, .inr (3, [.int 12, .int 5, .ref q6, .int 0])), (q6, .inl (X.2 0, 60, .inl (fun _ => 0))), (q7, .inr (3, [.int 6, .int 2, .ref q8, .int 0])), (q8, .inl (X.2 0, 12, .inl (fun _ => 0))), (q9, .inr (3, [.int 1, .int 4, .ref q10, .int 0])), (q10, .inl (X.2 0, 4, .inl (fun _ => 0)))]) rfl ?_
  refine gn_al (pl := 0) (by decide +kernel) rfl ?_
  refine gn_get fl1_ok 29 1 4 0 (.ref q9) (by decide) rfl rfl (by decide +kernel) ?_
  refine gn_callV [] q9 [] ([(h, .inr (1, [.ref q1, .ref q3, .ref q5, .ref q7, .ref q9, .int 0, .int 0, .int 0, .int 0])), (q1, .inr (3, [.int 8, .int 7, .ref q2, .int 0])), (q2, .inl (X.2 0, 56, .inl (fun _ => 0))), (q3, .inr (3, [.int 6, .int 5, .ref q4, .int 0])), (q4, .inl (X.2 0, 30, .inl (fun _ => 0))), (q5, .inr (3, [.int 12, .int 5, .ref q6, .int 0])), (q6, .inl (X.2 0, 60, .inl (fun _ => 0))), (q7, .inr (3, [.int 6, .int 2, .ref q8, .int 0])), (q8, .inl (X.2 0, 12, .inl (fun _ => 0)))]) [(q9, .inr (3, [.int 1, .int 4, .ref q10, .int 0])), (q10, .inl (X.2 0, 4, .inl (fun _ => 0)))] 0 3 (r := (RX3, TX3, 4)) vl_RX1_32 mi_X3_append (n_append l) rfl rfl rfl rfl ⟨Nat.le_of_ble_eq_true rfl, Nat.le_of_ble_eq_true rfl⟩ (Nat.le_of_ble_eq_true rfl) ⟨Nat.le_of_ble_eq_true rfl, Nat.le_of_ble_eq_true rfl⟩ rfl rfl (by decide +kernel) (fun o u _ hu => ?_)
  obtain ⟨rfl, rfl⟩ := hu
  refine gn_ws (ws' := [(h, .inr (1, [.ref q1, .ref q3, .ref q5, .ref q7, .ref q9, .int 0, .int 0, .int 0, .int 0])), (q1, .inr (3, [.int 8, .int 7, .ref q2, .int 0])), (q2, .inl (X.2 0, 56, .inl (fun _ => 0))), (q3, .inr (3, [.int 6, .int 5, .ref q4, .int 0])), (q4, .inl (X.2 0, 30, .inl (fun _ => 0))), (q5, .inr (3, [.int 12, .int 5, .ref q6, .int 0])), (q6, .inl (X.2 0, 60, .inl (fun _ => 0))), (q7, .inr (3, [.int 6, .int 2, .ref q8, .int 0])), (q8, .inl (X.2 0, 12, .inl (fun _ => 0))), (q9, .inr (3, [.int 1, .int 4, .ref q10, .int 1])), (q10, .inl (X.2 0, 4, .inl (upd (upd (upd (upd (fun _ => 0) 0 0) 1 0) 2 0) 3 0)))]) rfl ?_
  refine gn_pop (by decide +kernel) ?_
  refine gn_al (pl := 0) (by decide +kernel) rfl ?_
  refine gn_get fl1_ok 29 1 4 0 (.ref q9) (by decide) rfl rfl (by decide +kernel) ?_
  refine gn_ic (0 : Int32) (by decide +kernel) (by decide) ?_
  refine gn_ic (0 : Int32) (by decide +kernel) (by decide) ?_
  refine gn_bi (20 : Int32) (by decide +kernel) (by decide) ?_
  refine gn_callV [.int 0, .int 0, .int 20] q9 [] ([(h, .inr (1, [.ref q1, .ref q3, .ref q5, .ref q7, .ref q9, .int 0, .int 0, .int 0, .int 0])), (q1, .inr (3, [.int 8, .int 7, .ref q2, .int 0])), (q2, .inl (X.2 0, 56, .inl (fun _ => 0))), (q3, .inr (3, [.int 6, .int 5, .ref q4, .int 0])), (q4, .inl (X.2 0, 30, .inl (fun _ => 0))), (q5, .inr (3, [.int 12, .int 5, .ref q6, .int 0])), (q6, .inl (X.2 0, 60, .inl (fun _ => 0))), (q7, .inr (3, [.int 6, .int 2, .ref q8, .int 0])), (q8, .inl (X.2 0, 12, .inl (fun _ => 0)))]) [(q9, .inr (3, [.int 1, .int 4, .ref q10, .int 1])), (q10, .inl (X.2 0, 4, .inl (upd (upd (upd (upd (fun _ => 0) 0 0) 1 0) 2 0) 3 0)))] 0 3 (r := (RX3, TX3, 4)) vl_RX1_36 mi_X3_write (n_write l (j := 0) rfl (by decide)) rfl rfl rfl rfl ⟨Nat.le_of_ble_eq_true rfl, Nat.le_of_ble_eq_true rfl⟩ (Nat.le_of_ble_eq_true rfl) ⟨Nat.le_of_ble_eq_true rfl, Nat.le_of_ble_eq_true rfl⟩ rfl rfl (by decide +kernel) (fun o u ho hu => ?_)
  have ho : o = none := by cases o with | none => rfl | some z => exact Bool.noConfusion ho
  subst ho
  obtain rfl := hu
  refine gn_ws (ws' := [(h, .inr (1, [.ref q1, .ref q3, .ref q5, .ref q7, .ref q9, .int 0, .int 0, .int 0, .int 0])), (q1, .inr (3, [.int 8, .int 7, .ref q2, .int 0])), (q2, .inl (X.2 0, 56, .inl (fun _ => 0))), (q3, .inr (3, [.int 6, .int 5, .ref q4, .int 0])), (q4, .inl (X.2 0, 30, .inl (fun _ => 0))), (q5, .inr (3, [.int 12, .int 5, .ref q6, .int 0])), (q6, .inl (X.2 0, 60, .inl (fun _ => 0))), (q7, .inr (3, [.int 6, .int 2, .ref q8, .int 0])), (q8, .inl (X.2 0, 12, .inl (fun _ => 0))), (q9, .inr (3, [.int 1, .int 4, .ref q10, .int 1])), (q10, .inl (X.2 0, 4, .inl (upd (upd (upd (upd (upd (fun _ => 0) 0 0) 1 0) 2 0) 3 0) 0 20)))]) rfl ?_
  refine gn_al (pl := 0) (by decide +kernel) rfl ?_
  refine gn_get fl1_ok 29 1 4 0 (.ref q9) (by decide) rfl rfl (by decide +kernel) ?_
  refine gn_ic (0 : Int32) (by decide +kernel) (by decide) ?_
  refine gn_ic (1 : Int32) (by decide +kernel) (by decide) ?_
  refine gn_bi (25 : Int32) (by decide +kernel) (by decide) ?_
  refine gn_callV [.int 0, .int 1, .int 25] q9 [] ([(h, .inr (1, [.ref q1, .ref q3, .ref q5, .ref q7, .ref q9, .int 0, .int 0, .int 0, .int 0])), (q1, .inr (3, [.int 8, .int 7, .ref q2, .int 0])), (q2, .inl (X.2 0, 56, .inl (fun _ => 0))), (q3, .inr (3, [.int 6, .int 5, .ref q4, .int 0])), (q4, .inl (X.2 0, 30, .inl (fun _ => 0))), (q5, .inr (3, [.int 12, .int 5, .ref q6, .int 0])), (q6, .inl (X.2 0, 60, .inl (fun _ => 0))), (q7, .inr (3, [.int 6, .int 2, .ref q8, .int 0])), (q8, .inl (X.2 0, 12, .inl (fun _ => 0)))]) [(q9, .inr (3, [.int 1, .int 4, .ref q10, .int 1])), (q10, .inl (X.2 0, 4, .inl (upd (upd (upd (upd (upd (fun _ => 0) 0 0) 1 0) 2 0) 3 0) 0 20)))] 0 3 (r := (RX3, TX3, 4)) vl_RX1_36 mi_X3_write (n_write l (j := 1) rfl (by decide)) rfl rfl rfl rfl ⟨Nat.le_of_ble_eq_true rfl, Nat.le_of_ble_eq_true rfl⟩ (Nat.le_of_ble_eq_true rfl) ⟨Nat.le_of_ble_eq_true rfl, Nat.le_of_ble_eq_true rfl⟩ rfl rfl (by decide +kernel) (fun o u ho hu => ?_)
  have ho : o = none := by cases o with | none => rfl | some z => exact Bool.noConfusion ho
  subst ho
  obtain rfl := hu
  refine gn_ws (ws' := [(h, .inr (1, [.ref q1, .ref q3, .ref q5, .ref q7, .ref q9, .int 0, .int 0, .int 0, .int 0])), (q1, .inr (3, [.int 8, .int 7, .ref q2, .int 0])), (q2, .inl (X.2 0, 56, .inl (fun _ => 0))), (q3, .inr (3, [.int 6, .int 5, .ref q4, .int 0])), (q4, .inl (X.2 0, 30, .inl (fun _ => 0))), (q5, .inr (3, [.int 12, .int 5, .ref q6, .int 0])), (q6, .inl (X.2 0, 60, .inl (fun _ => 0))), (q7, .inr (3, [.int 6, .int 2, .ref q8, .int 0])), (q8, .inl (X.2 0, 12, .inl (fun _ => 0))), (q9, .inr (3, [.int 1, .int 4, .ref q10, .int 1])), (q10, .inl (X.2 0, 4, .inl (upd (upd (upd (upd (upd (upd (fun _ => 0) 0 0) 1 0) 2 0) 3 0) 0 20) 1 25)))]) rfl ?_
  refine gn_al (pl := 0) (by decide +kernel) rfl ?_
  refine gn_get fl1_ok 29 1 4 0 (.ref q9) (by decide) rfl rfl (by decide +kernel) ?_
  refine gn_ic (0 : Int32) (by decide +kernel) (by decide) ?_
  refine gn_ic (2 : Int32) (by decide +kernel) (by decide) ?_
  refine gn_ic (3 : Int32) (by decide +kernel) (by decide) ?_
  refine gn_callV [.int 0, .int 2, .int 3] q9 [] ([(h, .inr (1, [.ref q1, .ref q3, .ref q5, .ref q7, .ref q9, .int 0, .int 0, .int 0, .int 0])), (q1, .inr (3, [.int 8, .int 7, .ref q2, .int 0])), (q2, .inl (X.2 0, 56, .inl (fun _ => 0))), (q3, .inr (3, [.int 6, .int 5, .ref q4, .int 0])), (q4, .inl (X.2 0, 30, .inl (fun _ => 0))), (q5, .inr (3, [.int 12, .int 5, .ref q6, .int 0])), (q6, .inl (X.2 0, 60, .inl (fun _ => 0))), (q7, .inr (3, [.int 6, .int 2, .ref q8, .int 0])), (q8, .inl (X.2 0, 12, .inl (fun _ => 0)))]) [(q9, .inr (3, [.int 1, .int 4, .ref q10, .int 1])), (q10, .inl (X.2 0, 4, .inl (upd (upd (upd (upd (upd (upd (fun _ => 0) 0 0) 1 0) 2 0) 3 0) 0 20) 1 25)))] 0 3 (r := (RX3, TX3, 4)) vl_RX1_36 mi_X3_write (n_write l (j := 2) rfl (by decide)) rfl rfl rfl rfl ⟨Nat.le_of_ble_eq_true rfl, Nat.le_of_ble_eq_true rfl⟩ (Nat.le_of_ble_eq_true rfl) ⟨Nat.le_of_ble_eq_true rfl, Nat.le_of_ble_eq_true rfl⟩ rfl rfl (by decide +kernel) (fun o u ho hu => ?_)
  have ho : o = none := by cases o with | none => rfl | some z => exact Bool.noConfusion ho
  subst ho
  obtain rfl := hu
  refine gn_ws (ws' := [(h, .inr (1, [.ref q1, .ref q3, .ref q5, .ref q7, .ref q9, .int 0, .int 0, .int 0, .int 0])), (q1, .inr (3, [.int 8, .int 7, .ref q2, .int 0])), (q2, .inl (X.2 0, 56, .inl (fun _ => 0))), (q3, .inr (3, [.int 6, .int 5, .ref q4, .int 0])), (q4, .inl (X.2 0, 30, .inl (fun _ => 0))), (q5, .inr (3, [.int 12, .int 5, .ref q6, .int 0])), (q6, .inl (X.2 0, 60, .inl (fun _ => 0))), (q7, .inr (3, [.int 6, .int 2, .ref q8, .int 0])), (q8, .inl (X.2 0, 12, .inl (fun _ => 0))), (q9, .inr (3, [.int 1, .int 4, .ref q10, .int 1])), (q10, .inl (X.2 0, 4, .inl (upd (upd (upd (upd (upd (upd (upd (fun _ => 0) 0 0) 1 0) 2 0) 3 0) 0 20) 1 25) 2 3)))]) rfl ?_
  refine gn_al (pl := 0) (by decide +kernel) rfl ?_
  refine gn_get fl1_ok 29 1 4 0 (.ref q9) (by decide) rfl rfl (by decide +kernel) ?_
  refine gn_ic (0 : Int32) (by decide +kernel) (by decide) ?_
  refine gn_ic (3 : Int32) (by decide +kernel) (by decide) ?_
  refine gn_si (250 : Int32) (by decide +kernel) (by decide) ?_
  refine gn_callV [.int 0, .int 3, .int 250] q9 [] ([(h, .inr (1, [.ref q1, .ref q3, .ref q5, .ref q7, .ref q9, .int 0, .int 0, .int 0, .int 0])), (q1, .inr (3, [.int 8, .int 7, .ref q2, .int 0])), (q2, .inl (X.2 0, 56, .inl (fun _ => 0))), (q3, .inr (3, [.int 6, .int 5, .ref q4, .int 0])), (q4, .inl (X.2 0, 30, .inl (fun _ => 0))), (q5, .inr (3, [.int 12, .int 5, .ref q6, .int 0])), (q6, .inl (X.2 0, 60, .inl (fun _ => 0))), (q7, .inr (3, [.int 6, .int 2, .ref q8, .int 0])), (q8, .inl (X.2 0, 12, .inl (fun _ => 0)))]) [(q9, .inr (3, [.int 1, .int 4, .ref q10, .int 1])), (q10, .inl (X.2 0, 4, .inl (upd (upd (upd (upd (upd (upd (upd (fun _ => 0) 0 0) 1 0) 2 0) 3 0) 0 20) 1 25) 2 3)))] 0 3 (r := (RX3, TX3, 4)) vl_RX1_36 mi_X3_write (n_write l (j := 3) rfl (by decide)) rfl rfl rfl rfl ⟨Nat.le_of_ble_eq_true rfl, Nat.le_of_ble_eq_true rfl⟩ (Nat.le_of_ble_eq_true rfl) ⟨Nat.le_of_ble_eq_true rfl, Nat.le_of_ble_eq_true rfl⟩ rfl rfl (by decide +kernel) (fun o u ho hu => ?_)
  have ho : o = none := by cases o with | none => rfl | some z => exact Bool.noConfusion ho
  subst ho
  obtain rfl := hu
  refine gn_ws (ws' := [(h, .inr (1, [.ref q1, .ref q3, .ref q5, .ref q7, .ref q9, .int 0, .int 0, .int 0, .int 0])), (q1, .inr (3, [.int 8, .int 7, .ref q2, .int 0])), (q2, .inl (X.2 0, 56, .inl (fun _ => 0))), (q3, .inr (3, [.int 6, .int 5, .ref q4, .int 0])), (q4, .inl (X.2 0, 30, .inl (fun _ => 0))), (q5, .inr (3, [.int 12, .int 5, .ref q6, .int 0])), (q6, .inl (X.2 0, 60, .inl (fun _ => 0))), (q7, .inr (3, [.int 6, .int 2, .ref q8, .int 0])), (q8, .inl (X.2 0, 12, .inl (fun _ => 0))), (q9, .inr (3, [.int 1, .int 4, .ref q10, .int 1])), (q10, .inl (X.2 0, 4, .inl (upd (upd (upd (upd (upd (upd (upd (upd (fun _ => 0) 0 0) 1 0) 2 0) 3 0) 0 20) 1 25) 2 3) 3 250)))]) rfl ?_
  exact gn_vret (by decide +kernel) ⟨fun k => match k with
      | 0 => h
      | 1 => q1
      | 2 => q2
      | 3 => q3
      | 4 => q4
      | 5 => q5
      | 6 => q6
      | 7 => q7
      | 8 => q8
      | 9 => q9
      | _ => q10, rfl, rfl⟩
def padW (X : XV) (a b c d : Nat) : va_W := [(a, .inr (2, [.ref b, .int 0, .ref c])), (b, .inl (X.2 1, 60, .inl (fun _ => 0))), (c, .inr (3, [.int 30, .int 2, .ref d, .int 0])), (d, .inl (X.2 0, 60, .inl (fun _ => 0)))]
set_option maxHeartbeats 1000000 in
theorem n_pad (l : Launch) {X : XV} {h : Nat} : NCon l X 2 3 124 yX2_init cX2_init 1 none [.ref h] [(h, .inr (2, [.null, .int 0, .null]))] (fun _ u => ∃ b c d : Nat, u = padW X h b c d) := by
  refine ncon_of (ini := true) pn_X2_init (by decide) (fun _ => rfl) ?_
  refine gn_al (pl := 0) (by decide +kernel) rfl ?_
  refine gn_obj ol_RX2_3 (Nat.le_of_ble_eq_true rfl) (Nat.le_of_ble_eq_true rfl) (by decide +kernel) ?_
  refine gn_al (pl := 0) (by decide +kernel) rfl ?_
  refine gn_bi (60 : Int32) (by decide +kernel) (by decide) ?_
  refine gn_newc 60 (by decide) (by decide) (Nat.le_of_ble_eq_true rfl) ⟨Nat.le_of_ble_eq_true rfl, Nat.le_of_ble_eq_true rfl⟩ (by decide +kernel) (fun q1 => ?_)
  refine gn_ws (ws' := [(h, .inr (2, [.null, .int 0, .null])), (q1, .inl (X.2 1, 60, .inl (fun _ => 0)))]) rfl ?_
  refine gn_putF 9 2 0 0 (r := (RX2, TX2, 3)) rfl rfl (by decide) (tg 182 (by decide +kernel) (by decide +kernel)) rfl rfl rfl rfl rfl (by decide) (by decide +kernel) ?_
  refine gn_ws (ws' := [(h, .inr (2, [.ref q1, .int 0, .null])), (q1, .inl (X.2 1, 60, .inl (fun _ => 0)))]) rfl ?_
  refine gn_al (pl := 0) (by decide +kernel) rfl ?_
  refine gn_new 3 (r := (RX3, TX3, 4)) [.int 0, .int 0, .null, .int 0] rfl (tg 180 (by decide +kernel) (by decide +kernel)) (tg 85 (by decide +kernel) (by decide +kernel)) (tg 64 (by decide +kernel) (by decide +kernel)) fs_3 ⟨Nat.le_of_ble_eq_true rfl, Nat.le_of_ble_eq_true rfl⟩ (by decide +kernel) (fun q2 => ?_)
  refine gn_ws (ws' := [(h, .inr (2, [.ref q1, .int 0, .null])), (q1, .inl (X.2 1, 60, .inl (fun _ => 0))), (q2, .inr (3, [.int 0, .int 0, .null, .int 0]))]) rfl ?_
  refine gn_dup (by decide +kernel) ?_
  refine gn_bi (30 : Int32) (by decide +kernel) (by decide) ?_
  refine gn_ic (2 : Int32) (by decide +kernel) (by decide) ?_
  refine gn_callI [.int 30, .int 2] q2 [.ref q2, .ref h] ([(h, .inr (2, [.ref q1, .int 0, .null])), (q1, .inl (X.2 1, 60, .inl (fun _ => 0)))]) [(q2, .inr (3, [.int 0, .int 0, .null, .int 0]))] il_RX2_17 mi_X3_init rfl (n_table l (N := 60) rfl (by decide)) rfl ⟨Nat.le_of_ble_eq_true rfl, Nat.le_of_ble_eq_true rfl⟩ (Nat.le_of_ble_eq_true rfl) ⟨Nat.le_of_ble_eq_true rfl, Nat.le_of_ble_eq_true rfl⟩ rfl rfl (by decide +kernel) (fun u hu => ?_)
  obtain ⟨q3, rfl⟩ := hu
  refine gn_ws (ws' := [(h, .inr (2, [.ref q1, .int 0, .null])), (q1, .inl (X.2 1, 60, .inl (fun _ => 0))), (q2, .inr (3, [.int 30, .int 2, .ref q3, .int 0])), (q3, .inl (X.2 0, 60, .inl (fun _ => 0)))]) rfl ?_
  refine gn_putF 20 2 2 0 (r := (RX2, TX2, 3)) rfl rfl (by decide) (tg 185 (by decide +kernel) (by decide +kernel)) rfl rfl rfl rfl rfl (by decide) (by decide +kernel) ?_
  refine gn_ws (ws' := [(h, .inr (2, [.ref q1, .int 0, .ref q2])), (q1, .inl (X.2 1, 60, .inl (fun _ => 0))), (q2, .inr (3, [.int 30, .int 2, .ref q3, .int 0])), (q3, .inl (X.2 0, 60, .inl (fun _ => 0)))]) rfl ?_
  exact gn_vret (by decide +kernel) ⟨_, _, _, rfl⟩
def modC : Nat → Int32 := (upd (upd (upd (upd (fun _ => 0) 8 20) 9 25) 10 3) 11 250)
def modW (X : XV) (h a b c d f : Nat) : va_W := [(h, .inr (5, [.ref a, .ref b, .ref c, .int 0, .ref d, .int 0, .int 0, .int 0, .int 0, .ref f, .int 0])), (a, .inl (X.2 0, 162, .inl modC)), (b, .inl (X.2 0, 162, .inl (fun _ => 0))), (c, .inl (X.2 0, 972, .inl (fun _ => 0))), (d, .inl (X.2 0, 60, .inl (fun _ => 0))), (f, .inl (X.2 0, 60, .inl (fun _ => 0)))]
set_option maxHeartbeats 1000000 in
theorem n_model (l : Launch) {X : XV} {h : Nat} : NCon l X 1 5 1416 yX5_init cX5_init 1 none [.ref h] [(h, .inr (5, [.null, .null, .null, .int 0, .null, .int 0, .int 0, .int 0, .int 0, .null, .int 0]))] (fun _ u => ∃ a b c d f : Nat, u = modW X h a b c d f) := by
  refine ncon_of (ini := true) pn_X5_init (by decide) (fun _ => rfl) ?_
  refine gn_al (pl := 0) (by decide +kernel) rfl ?_
  refine gn_obj ol_RX5_1 (Nat.le_of_ble_eq_true rfl) (Nat.le_of_ble_eq_true rfl) (by decide +kernel) ?_
  refine gn_al (pl := 0) (by decide +kernel) rfl ?_
  refine gn_si (162 : Int32) (by decide +kernel) (by decide) ?_
  refine gn_newi 162 (by decide) (by decide) (Nat.le_of_ble_eq_true rfl) ⟨Nat.le_of_ble_eq_true rfl, Nat.le_of_ble_eq_true rfl⟩ (by decide +kernel) (fun q1 => ?_)
  refine gn_ws (ws' := [(h, .inr (5, [.null, .null, .null, .int 0, .null, .int 0, .int 0, .int 0, .int 0, .null, .int 0])), (q1, .inl (X.2 0, 162, .inl (fun _ => 0)))]) rfl ?_
  refine gn_putF 7 5 0 0 (r := (RX5, TX5, 11)) rfl rfl (by decide) (tg 610 (by decide +kernel) (by decide +kernel)) rfl rfl rfl rfl rfl (by decide) (by decide +kernel) ?_
  refine gn_ws (ws' := [(h, .inr (5, [.ref q1, .null, .null, .int 0, .null, .int 0, .int 0, .int 0, .int 0, .null, .int 0])), (q1, .inl (X.2 0, 162, .inl (fun _ => 0)))]) rfl ?_
  refine gn_al (pl := 0) (by decide +kernel) rfl ?_
  refine gn_si (162 : Int32) (by decide +kernel) (by decide) ?_
  refine gn_newi 162 (by decide) (by decide) (Nat.le_of_ble_eq_true rfl) ⟨Nat.le_of_ble_eq_true rfl, Nat.le_of_ble_eq_true rfl⟩ (by decide +kernel) (fun q2 => ?_)
  refine gn_ws (ws' := [(h, .inr (5, [.ref q1, .null, .null, .int 0, .null, .int 0, .int 0, .int 0, .int 0, .null, .int 0])), (q1, .inl (X.2 0, 162, .inl (fun _ => 0))), (q2, .inl (X.2 0, 162, .inl (fun _ => 0)))]) rfl ?_
  refine gn_putF 13 5 1 0 (r := (RX5, TX5, 11)) rfl rfl (by decide) (tg 611 (by decide +kernel) (by decide +kernel)) rfl rfl rfl rfl rfl (by decide) (by decide +kernel) ?_
  refine gn_ws (ws' := [(h, .inr (5, [.ref q1, .ref q2, .null, .int 0, .null, .int 0, .int 0, .int 0, .int 0, .null, .int 0])), (q1, .inl (X.2 0, 162, .inl (fun _ => 0))), (q2, .inl (X.2 0, 162, .inl (fun _ => 0)))]) rfl ?_
  refine gn_al (pl := 0) (by decide +kernel) rfl ?_
  refine gn_si (972 : Int32) (by decide +kernel) (by decide) ?_
  refine gn_newi 972 (by decide) (by decide) (Nat.le_of_ble_eq_true rfl) ⟨Nat.le_of_ble_eq_true rfl, Nat.le_of_ble_eq_true rfl⟩ (by decide +kernel) (fun q3 => ?_)
  refine gn_ws (ws' := [(h, .inr (5, [.ref q1, .ref q2, .null, .int 0, .null, .int 0, .int 0, .int 0, .int 0, .null, .int 0])), (q1, .inl (X.2 0, 162, .inl (fun _ => 0))), (q2, .inl (X.2 0, 162, .inl (fun _ => 0))), (q3, .inl (X.2 0, 972, .inl (fun _ => 0)))]) rfl ?_
  refine gn_putF 16 5 2 0 (r := (RX5, TX5, 11)) rfl rfl (by decide) (tg 612 (by decide +kernel) (by decide +kernel)) rfl rfl rfl rfl rfl (by decide) (by decide +kernel) ?_
  refine gn_ws (ws' := [(h, .inr (5, [.ref q1, .ref q2, .ref q3, .int 0, .null, .int 0, .int 0, .int 0, .int 0, .null, .int 0])), (q1, .inl (X.2 0, 162, .inl (fun _ => 0))), (q2, .inl (X.2 0, 162, .inl (fun _ => 0))), (q3, .inl (X.2 0, 972, .inl (fun _ => 0)))]) rfl ?_
  refine gn_al (pl := 0) (by decide +kernel) rfl ?_
  refine gn_bi (60 : Int32) (by decide +kernel) (by decide) ?_
  refine gn_newi 60 (by decide) (by decide) (Nat.le_of_ble_eq_true rfl) ⟨Nat.le_of_ble_eq_true rfl, Nat.le_of_ble_eq_true rfl⟩ (by decide +kernel) (fun q4 => ?_)
  refine gn_ws (ws' := [(h, .inr (5, [.ref q1, .ref q2, .ref q3, .int 0, .null, .int 0, .int 0, .int 0, .int 0, .null, .int 0])), (q1, .inl (X.2 0, 162, .inl (fun _ => 0))), (q2, .inl (X.2 0, 162, .inl (fun _ => 0))), (q3, .inl (X.2 0, 972, .inl (fun _ => 0))), (q4, .inl (X.2 0, 60, .inl (fun _ => 0)))]) rfl ?_
  refine gn_putF 19 5 4 0 (r := (RX5, TX5, 11)) rfl rfl (by decide) (tg 614 (by decide +kernel) (by decide +kernel)) rfl rfl rfl rfl rfl (by decide) (by decide +kernel) ?_
  refine gn_ws (ws' := [(h, .inr (5, [.ref q1, .ref q2, .ref q3, .int 0, .ref q4, .int 0, .int 0, .int 0, .int 0, .null, .int 0])), (q1, .inl (X.2 0, 162, .inl (fun _ => 0))), (q2, .inl (X.2 0, 162, .inl (fun _ => 0))), (q3, .inl (X.2 0, 972, .inl (fun _ => 0))), (q4, .inl (X.2 0, 60, .inl (fun _ => 0)))]) rfl ?_
  refine gn_al (pl := 0) (by decide +kernel) rfl ?_
  refine gn_bi (60 : Int32) (by decide +kernel) (by decide) ?_
  refine gn_newi 60 (by decide) (by decide) (Nat.le_of_ble_eq_true rfl) ⟨Nat.le_of_ble_eq_true rfl, Nat.le_of_ble_eq_true rfl⟩ (by decide +kernel) (fun q5 => ?_)
  refine gn_ws (ws' := [(h, .inr (5, [.ref q1, .ref q2, .ref q3, .int 0, .ref q4, .int 0, .int 0, .int 0, .int 0, .null, .int 0])), (q1, .inl (X.2 0, 162, .inl (fun _ => 0))), (q2, .inl (X.2 0, 162, .inl (fun _ => 0))), (q3, .inl (X.2 0, 972, .inl (fun _ => 0))), (q4, .inl (X.2 0, 60, .inl (fun _ => 0))), (q5, .inl (X.2 0, 60, .inl (fun _ => 0)))]) rfl ?_
  refine gn_putF 22 5 9 0 (r := (RX5, TX5, 11)) rfl rfl (by decide) (tg 619 (by decide +kernel) (by decide +kernel)) rfl rfl rfl rfl rfl (by decide) (by decide +kernel) ?_
  refine gn_ws (ws' := [(h, .inr (5, [.ref q1, .ref q2, .ref q3, .int 0, .ref q4, .int 0, .int 0, .int 0, .int 0, .ref q5, .int 0])), (q1, .inl (X.2 0, 162, .inl (fun _ => 0))), (q2, .inl (X.2 0, 162, .inl (fun _ => 0))), (q3, .inl (X.2 0, 972, .inl (fun _ => 0))), (q4, .inl (X.2 0, 60, .inl (fun _ => 0))), (q5, .inl (X.2 0, 60, .inl (fun _ => 0)))]) rfl ?_
  refine gn_al (pl := 0) (by decide +kernel) rfl ?_
  refine gn_get fl5_ok 7 5 0 0 (.ref q1) (by decide) rfl rfl (by decide +kernel) ?_
  refine gn_bi (8 : Int32) (by decide +kernel) (by decide) ?_
  refine gn_bi (20 : Int32) (by decide +kernel) (by decide) ?_
  refine gn_iast 1 rfl (by decide) (by decide +kernel) ?_
  refine gn_ws (ws' := [(h, .inr (5, [.ref q1, .ref q2, .ref q3, .int 0, .ref q4, .int 0, .int 0, .int 0, .int 0, .ref q5, .int 0])), (q1, .inl (X.2 0, 162, .inl (upd (fun _ => 0) 8 20))), (q2, .inl (X.2 0, 162, .inl (fun _ => 0))), (q3, .inl (X.2 0, 972, .inl (fun _ => 0))), (q4, .inl (X.2 0, 60, .inl (fun _ => 0))), (q5, .inl (X.2 0, 60, .inl (fun _ => 0)))]) rfl ?_
  refine gn_al (pl := 0) (by decide +kernel) rfl ?_
  refine gn_get fl5_ok 7 5 0 0 (.ref q1) (by decide) rfl rfl (by decide +kernel) ?_
  refine gn_bi (9 : Int32) (by decide +kernel) (by decide) ?_
  refine gn_bi (25 : Int32) (by decide +kernel) (by decide) ?_
  refine gn_iast 1 rfl (by decide) (by decide +kernel) ?_
  refine gn_ws (ws' := [(h, .inr (5, [.ref q1, .ref q2, .ref q3, .int 0, .ref q4, .int 0, .int 0, .int 0, .int 0, .ref q5, .int 0])), (q1, .inl (X.2 0, 162, .inl (upd (upd (fun _ => 0) 8 20) 9 25))), (q2, .inl (X.2 0, 162, .inl (fun _ => 0))), (q3, .inl (X.2 0, 972, .inl (fun _ => 0))), (q4, .inl (X.2 0, 60, .inl (fun _ => 0))), (q5, .inl (X.2 0, 60, .inl (fun _ => 0)))]) rfl ?_
  refine gn_al (pl := 0) (by decide +kernel) rfl ?_
  refine gn_get fl5_ok 7 5 0 0 (.ref q1) (by decide) rfl rfl (by decide +kernel) ?_
  refine gn_bi (10 : Int32) (by decide +kernel) (by decide) ?_
  refine gn_ic (3 : Int32) (by decide +kernel) (by decide) ?_
  refine gn_iast 1 rfl (by decide) (by decide +kernel) ?_
  refine gn_ws (ws' := [(h, .inr (5, [.ref q1, .ref q2, .ref q3, .int 0, .ref q4, .int 0, .int 0, .int 0, .int 0, .ref q5, .int 0])), (q1, .inl (X.2 0, 162, .inl (upd (upd (upd (fun _ => 0) 8 20) 9 25) 10 3))), (q2, .inl (X.2 0, 162, .inl (fun _ => 0))), (q3, .inl (X.2 0, 972, .inl (fun _ => 0))), (q4, .inl (X.2 0, 60, .inl (fun _ => 0))), (q5, .inl (X.2 0, 60, .inl (fun _ => 0)))]) rfl ?_
  refine gn_al (pl := 0) (by decide +kernel) rfl ?_
  refine gn_get fl5_ok 7 5 0 0 (.ref q1) (by decide) rfl rfl (by decide +kernel) ?_
  refine gn_bi (11 : Int32) (by decide +kernel) (by decide) ?_
  refine gn_si (250 : Int32) (by decide +kernel) (by decide) ?_
  refine gn_iast 1 rfl (by decide) (by decide +kernel) ?_
  refine gn_ws (ws' := [(h, .inr (5, [.ref q1, .ref q2, .ref q3, .int 0, .ref q4, .int 0, .int 0, .int 0, .int 0, .ref q5, .int 0])), (q1, .inl (X.2 0, 162, .inl (upd (upd (upd (upd (fun _ => 0) 8 20) 9 25) 10 3) 11 250))), (q2, .inl (X.2 0, 162, .inl (fun _ => 0))), (q3, .inl (X.2 0, 972, .inl (fun _ => 0))), (q4, .inl (X.2 0, 60, .inl (fun _ => 0))), (q5, .inl (X.2 0, 60, .inl (fun _ => 0)))]) rfl ?_
  exact gn_vret (by decide +kernel) ⟨_, _, _, _, _, rfl⟩
