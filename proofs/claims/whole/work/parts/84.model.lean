section
theorem cons2 {α : Type} {a b : α} {l m : List α} (h : a = b) (t : l = m) : a :: l = b :: m := by rw [h, t]
def adL (l : List Nat) (z : Nat → Nat) : Nat → Nat := fun c => (l[c]?).getD (z c)
def S0M : xSt := (fun c => match c with
  | 0 => (fun j => match j with
    | 3 => (-1)
    | 60 => 8
    | _ => 0)
  | _ => fun _ => 0, fun _ _ => 0, fun _ => 0)
set_option maxRecDepth 100000 in
set_option maxHeartbeats 4000000 in
theorem n_X12 (g : nG) (b : Nat) : EN g nZ 1 51 5687 mYX12_init [.ref b] b (.inr (12, [.null, .int 0, .int 0, .int 0, .int 0, .int 0, .int 0, .int 0, .int 0, .long 0, .null, .null, .null, .null, .null, .null, .null, .int 0, .int 0, .int 0, .int 0, .int 0, .int 0, .int 0, .null, .null, .null, .null, .null, .null, .null, .null, .null, .null, .null, .null, .null, .null, .null, .null, .null, .null, .null, .null, .null, .null, .null, .null, .null, .int 0, .int 0, .int 0, .int 0, .int 0, .int 0, .int 0, .int 0, .int 0, .int 0, .int 0, .int 0, .int 0, .int 0, .int 0, .int 0, .int 0, .int 0, .null, .null, .int 0, .int 0, .null, .null, .int 0, .int 0, .null, .null, .null, .null, .int 0, .int 0, .int 0, .int 0, .int 0, .null, .int 0, .null, .null, .null, .null, .null, .null, .null, .int 0, .int 0, .null, .null])) (fun w => ∃ l : List Nat, l.length = 52 ∧ l[0]? = some b ∧ w = x_ws (gM (g.1, g.2.1, g.2.2, adL l (fun _ => 0), fun _ => True)) S0M) := by
  refine n_enter pn_X12 rfl (Nat.le_of_ble_eq_true rfl) (fun sz => ?_)
  refine n_aload_n (x_at tdX12_init 0 rfl) rfl rfl ?_
  refine n_obj (x_at tdX12_init 1 rfl) wm_X12_1 wv_obj wc_obj (Nat.le_of_ble_eq_true rfl) ?_
  refine n_aload_n (x_at tdX12_init 2 rfl) rfl rfl ?_
  refine n_sipush (x_at tdX12_init 3 rfl) (v := 1600) (by decide) ?_
  refine n_newiH (t := 0) (n := 1600) (x_at tdX12_init 4 rfl) rfl wa_int rfl (fun _ _ => rfl) rfl (Nat.le_of_ble_eq_true rfl) (by decide) (by decide) (Nat.le_of_ble_eq_true rfl) (Nat.le_of_ble_eq_true rfl) (fun q1 => ?_)
  refine n_putF (k := 0) (fs' := [.ref q1, .int 0, .int 0, .int 0, .int 0, .int 0, .int 0, .int 0, .int 0, .long 0, .null, .null, .null, .null, .null, .null, .null, .int 0, .int 0, .int 0, .int 0, .int 0, .int 0, .int 0, .null, .null, .null, .null, .null, .null, .null, .null, .null, .null, .null, .null, .null, .null, .null, .null, .null, .null, .null, .null, .null, .null, .null, .null, .null, .int 0, .int 0, .int 0, .int 0, .int 0, .int 0, .int 0, .int 0, .int 0, .int 0, .int 0, .int 0, .int 0, .int 0, .int 0, .int 0, .int 0, .int 0, .null, .null, .int 0, .int 0, .null, .null, .int 0, .int 0, .null, .null, .null, .null, .int 0, .int 0, .int 0, .int 0, .int 0, .null, .int 0, .null, .null, .null, .null, .null, .null, .null, .int 0, .int 0, .null, .null]) xc_12 (x_at tdX12_init 5 rfl) wf_X12_7 (by decide) rfl rfl rfl rfl (Nat.le_of_ble_eq_true rfl) rfl ?_
  refine n_aload_n (x_at tdX12_init 6 rfl) rfl rfl ?_
  refine n_iconst (x_at tdX12_init 7 rfl) (v := (-1)) (by decide) ?_
  refine n_put (k := 3) (fs' := [.ref q1, .int 0, .int 0, .int (-1), .int 0, .int 0, .int 0, .int 0, .int 0, .long 0, .null, .null, .null, .null, .null, .null, .null, .int 0, .int 0, .int 0, .int 0, .int 0, .int 0, .int 0, .null, .null, .null, .null, .null, .null, .null, .null, .null, .null, .null, .null, .null, .null, .null, .null, .null, .null, .null, .null, .null, .null, .null, .null, .null, .int 0, .int 0, .int 0, .int 0, .int 0, .int 0, .int 0, .int 0, .int 0, .int 0, .int 0, .int 0, .int 0, .int 0, .int 0, .int 0, .int 0, .int 0, .null, .null, .int 0, .int 0, .null, .null, .int 0, .int 0, .null, .null, .null, .null, .int 0, .int 0, .int 0, .int 0, .int 0, .null, .int 0, .null, .null, .null, .null, .null, .null, .null, .int 0, .int 0, .null, .null]) xc_12 (x_at tdX12_init 8 rfl) wf_X12_13 (by decide) rfl rfl rfl (Nat.le_of_ble_eq_true rfl) rfl ?_
  refine n_aload_n (x_at tdX12_init 9 rfl) rfl rfl ?_
  refine n_bipush (x_at tdX12_init 10 rfl) (v := 22) (by decide) ?_
  refine n_newlH (n := 22) (x_at tdX12_init 11 rfl) wa_long (Nat.le_of_ble_eq_true rfl) (by decide) (by decide) (Nat.le_of_ble_eq_true rfl) (Nat.le_of_ble_eq_true rfl) (fun q2 => ?_)
  refine n_putF (k := 10) (fs' := [.ref q1, .int 0, .int 0, .int (-1), .int 0, .int 0, .int 0, .int 0, .int 0, .long 0, .ref q2, .null, .null, .null, .null, .null, .null, .int 0, .int 0, .int 0, .int 0, .int 0, .int 0, .int 0, .null, .null, .null, .null, .null, .null, .null, .null, .null, .null, .null, .null, .null, .null, .null, .null, .null, .null, .null, .null, .null, .null, .null, .null, .null, .int 0, .int 0, .int 0, .int 0, .int 0, .int 0, .int 0, .int 0, .int 0, .int 0, .int 0, .int 0, .int 0, .int 0, .int 0, .int 0, .int 0, .int 0, .null, .null, .int 0, .int 0, .null, .null, .int 0, .int 0, .null, .null, .null, .null, .int 0, .int 0, .int 0, .int 0, .int 0, .null, .int 0, .null, .null, .null, .null, .null, .null, .null, .int 0, .int 0, .null, .null]) xc_12 (x_at tdX12_init 12 rfl) wf_X12_17 (by decide) rfl rfl rfl rfl (Nat.le_of_ble_eq_true rfl) rfl ?_
  refine n_aload_n (x_at tdX12_init 13 rfl) rfl rfl ?_
  refine n_sipush (x_at tdX12_init 14 rfl) (v := 320) (by decide) ?_
  refine n_newiH (t := 0) (n := 320) (x_at tdX12_init 15 rfl) rfl wa_int rfl (fun _ _ => rfl) rfl (Nat.le_of_ble_eq_true rfl) (by decide) (by decide) (Nat.le_of_ble_eq_true rfl) (Nat.le_of_ble_eq_true rfl) (fun q3 => ?_)
  refine n_putF (k := 11) (fs' := [.ref q1, .int 0, .int 0, .int (-1), .int 0, .int 0, .int 0, .int 0, .int 0, .long 0, .ref q2, .ref q3, .null, .null, .null, .null, .null, .int 0, .int 0, .int 0, .int 0, .int 0, .int 0, .int 0, .null, .null, .null, .null, .null, .null, .null, .null, .null, .null, .null, .null, .null, .null, .null, .null, .null, .null, .null, .null, .null, .null, .null, .null, .null, .int 0, .int 0, .int 0, .int 0, .int 0, .int 0, .int 0, .int 0, .int 0, .int 0, .int 0, .int 0, .int 0, .int 0, .int 0, .int 0, .int 0, .int 0, .null, .null, .int 0, .int 0, .null, .null, .int 0, .int 0, .null, .null, .null, .null, .int 0, .int 0, .int 0, .int 0, .int 0, .null, .int 0, .null, .null, .null, .null, .null, .null, .null, .int 0, .int 0, .null, .null]) xc_12 (x_at tdX12_init 16 rfl) wf_X12_21 (by decide) rfl rfl rfl rfl (Nat.le_of_ble_eq_true rfl) rfl ?_
  refine n_aload_n (x_at tdX12_init 17 rfl) rfl rfl ?_
  refine n_sipush (x_at tdX12_init 18 rfl) (v := 320) (by decide) ?_
  refine n_newiH (t := 0) (n := 320) (x_at tdX12_init 19 rfl) rfl wa_int rfl (fun _ _ => rfl) rfl (Nat.le_of_ble_eq_true rfl) (by decide) (by decide) (Nat.le_of_ble_eq_true rfl) (Nat.le_of_ble_eq_true rfl) (fun q4 => ?_)
  refine n_putF (k := 12) (fs' := [.ref q1, .int 0, .int 0, .int (-1), .int 0, .int 0, .int 0, .int 0, .int 0, .long 0, .ref q2, .ref q3, .ref q4, .null, .null, .null, .null, .int 0, .int 0, .int 0, .int 0, .int 0, .int 0, .int 0, .null, .null, .null, .null, .null, .null, .null, .null, .null, .null, .null, .null, .null, .null, .null, .null, .null, .null, .null, .null, .null, .null, .null, .null, .null, .int 0, .int 0, .int 0, .int 0, .int 0, .int 0, .int 0, .int 0, .int 0, .int 0, .int 0, .int 0, .int 0, .int 0, .int 0, .int 0, .int 0, .int 0, .null, .null, .int 0, .int 0, .null, .null, .int 0, .int 0, .null, .null, .null, .null, .int 0, .int 0, .int 0, .int 0, .int 0, .null, .int 0, .null, .null, .null, .null, .null, .null, .null, .int 0, .int 0, .null, .null]) xc_12 (x_at tdX12_init 20 rfl) wf_X12_24 (by decide) rfl rfl rfl rfl (Nat.le_of_ble_eq_true rfl) rfl ?_
  refine n_aload_n (x_at tdX12_init 21 rfl) rfl rfl ?_
  refine n_sipush (x_at tdX12_init 22 rfl) (v := 320) (by decide) ?_
  refine n_newiH (t := 0) (n := 320) (x_at tdX12_init 23 rfl) rfl wa_int rfl (fun _ _ => rfl) rfl (Nat.le_of_ble_eq_true rfl) (by decide) (by decide) (Nat.le_of_ble_eq_true rfl) (Nat.le_of_ble_eq_true rfl) (fun q5 => ?_)
  refine n_putF (k := 13) (fs' := [.ref q1, .int 0, .int 0, .int (-1), .int 0, .int 0, .int 0, .int 0, .int 0, .long 0, .ref q2, .ref q3, .ref q4, .ref q5, .null, .null, .null, .int 0, .int 0, .int 0, .int 0, .int 0, .int 0, .int 0, .null, .null, .null, .null, .null, .null, .null, .null, .null, .null, .null, .null, .null, .null, .null, .null, .null, .null, .null, .null, .null, .null, .null, .null, .null, .int 0, .int 0, .int 0, .int 0, .int 0, .int 0, .int 0, .int 0, .int 0, .int 0, .int 0, .int 0, .int 0, .int 0, .int 0, .int 0, .int 0, .int 0, .null, .null, .int 0, .int 0, .null, .null, .int 0, .int 0, .null, .null, .null, .null, .int 0, .int 0, .int 0, .int 0, .int 0, .null, .int 0, .null, .null, .null, .null, .null, .null, .null, .int 0, .int 0, .null, .null]) xc_12 (x_at tdX12_init 24 rfl) wf_X12_27 (by decide) rfl rfl rfl rfl (Nat.le_of_ble_eq_true rfl) rfl ?_
  refine n_aload_n (x_at tdX12_init 25 rfl) rfl rfl ?_
  refine n_sipush (x_at tdX12_init 26 rfl) (v := 320) (by decide) ?_
  refine n_newiH (t := 0) (n := 320) (x_at tdX12_init 27 rfl) rfl wa_int rfl (fun _ _ => rfl) rfl (Nat.le_of_ble_eq_true rfl) (by decide) (by decide) (Nat.le_of_ble_eq_true rfl) (Nat.le_of_ble_eq_true rfl) (fun q6 => ?_)
  refine n_putF (k := 14) (fs' := [.ref q1, .int 0, .int 0, .int (-1), .int 0, .int 0, .int 0, .int 0, .int 0, .long 0, .ref q2, .ref q3, .ref q4, .ref q5, .ref q6, .null, .null, .int 0, .int 0, .int 0, .int 0, .int 0, .int 0, .int 0, .null, .null, .null, .null, .null, .null, .null, .null, .null, .null, .null, .null, .null, .null, .null, .null, .null, .null, .null, .null, .null, .null, .null, .null, .null, .int 0, .int 0, .int 0, .int 0, .int 0, .int 0, .int 0, .int 0, .int 0, .int 0, .int 0, .int 0, .int 0, .int 0, .int 0, .int 0, .int 0, .int 0, .null, .null, .int 0, .int 0, .null, .null, .int 0, .int 0, .null, .null, .null, .null, .int 0, .int 0, .int 0, .int 0, .int 0, .null, .int 0, .null, .null, .null, .null, .null, .null, .null, .int 0, .int 0, .null, .null]) xc_12 (x_at tdX12_init 28 rfl) wf_X12_30 (by decide) rfl rfl rfl rfl (Nat.le_of_ble_eq_true rfl) rfl ?_
  refine n_aload_n (x_at tdX12_init 29 rfl) rfl rfl ?_
  refine n_sipush (x_at tdX12_init 30 rfl) (v := 160) (by decide) ?_
  refine n_newiH (t := 0) (n := 160) (x_at tdX12_init 31 rfl) rfl wa_int rfl (fun _ _ => rfl) rfl (Nat.le_of_ble_eq_true rfl) (by decide) (by decide) (Nat.le_of_ble_eq_true rfl) (Nat.le_of_ble_eq_true rfl) (fun q7 => ?_)
  refine n_putF (k := 15) (fs' := [.ref q1, .int 0, .int 0, .int (-1), .int 0, .int 0, .int 0, .int 0, .int 0, .long 0, .ref q2, .ref q3, .ref q4, .ref q5, .ref q6, .ref q7, .null, .int 0, .int 0, .int 0, .int 0, .int 0, .int 0, .int 0, .null, .null, .null, .null, .null, .null, .null, .null, .null, .null, .null, .null, .null, .null, .null, .null, .null, .null, .null, .null, .null, .null, .null, .null, .null, .int 0, .int 0, .int 0, .int 0, .int 0, .int 0, .int 0, .int 0, .int 0, .int 0, .int 0, .int 0, .int 0, .int 0, .int 0, .int 0, .int 0, .int 0, .null, .null, .int 0, .int 0, .null, .null, .int 0, .int 0, .null, .null, .null, .null, .int 0, .int 0, .int 0, .int 0, .int 0, .null, .int 0, .null, .null, .null, .null, .null, .null, .null, .int 0, .int 0, .null, .null]) xc_12 (x_at tdX12_init 32 rfl) wf_X12_33 (by decide) rfl rfl rfl rfl (Nat.le_of_ble_eq_true rfl) rfl ?_
  refine n_aload_n (x_at tdX12_init 33 rfl) rfl rfl ?_
  refine n_bipush (x_at tdX12_init 34 rfl) (v := 64) (by decide) ?_
  refine n_newiH (t := 0) (n := 64) (x_at tdX12_init 35 rfl) rfl wa_int rfl (fun _ _ => rfl) rfl (Nat.le_of_ble_eq_true rfl) (by decide) (by decide) (Nat.le_of_ble_eq_true rfl) (Nat.le_of_ble_eq_true rfl) (fun q8 => ?_)
  refine n_putF (k := 16) (fs' := [.ref q1, .int 0, .int 0, .int (-1), .int 0, .int 0, .int 0, .int 0, .int 0, .long 0, .ref q2, .ref q3, .ref q4, .ref q5, .ref q6, .ref q7, .ref q8, .int 0, .int 0, .int 0, .int 0, .int 0, .int 0, .int 0, .null, .null, .null, .null, .null, .null, .null, .null, .null, .null, .null, .null, .null, .null, .null, .null, .null, .null, .null, .null, .null, .null, .null, .null, .null, .int 0, .int 0, .int 0, .int 0, .int 0, .int 0, .int 0, .int 0, .int 0, .int 0, .int 0, .int 0, .int 0, .int 0, .int 0, .int 0, .int 0, .int 0, .null, .null, .int 0, .int 0, .null, .null, .int 0, .int 0, .null, .null, .null, .null, .int 0, .int 0, .int 0, .int 0, .int 0, .null, .int 0, .null, .null, .null, .null, .null, .null, .null, .int 0, .int 0, .null, .null]) xc_12 (x_at tdX12_init 36 rfl) wf_X12_36 (by decide) rfl rfl rfl rfl (Nat.le_of_ble_eq_true rfl) rfl ?_
  refine n_aload_n (x_at tdX12_init 37 rfl) rfl rfl ?_
  refine n_iconst (x_at tdX12_init 38 rfl) (v := 4) (by decide) ?_
  refine n_newiH (t := 0) (n := 4) (x_at tdX12_init 39 rfl) rfl wa_int rfl (fun _ _ => rfl) rfl (Nat.le_of_ble_eq_true rfl) (by decide) (by decide) (Nat.le_of_ble_eq_true rfl) (Nat.le_of_ble_eq_true rfl) (fun q9 => ?_)
  refine n_putF (k := 24) (fs' := [.ref q1, .int 0, .int 0, .int (-1), .int 0, .int 0, .int 0, .int 0, .int 0, .long 0, .ref q2, .ref q3, .ref q4, .ref q5, .ref q6, .ref q7, .ref q8, .int 0, .int 0, .int 0, .int 0, .int 0, .int 0, .int 0, .ref q9, .null, .null, .null, .null, .null, .null, .null, .null, .null, .null, .null, .null, .null, .null, .null, .null, .null, .null, .null, .null, .null, .null, .null, .null, .int 0, .int 0, .int 0, .int 0, .int 0, .int 0, .int 0, .int 0, .int 0, .int 0, .int 0, .int 0, .int 0, .int 0, .int 0, .int 0, .int 0, .int 0, .null, .null, .int 0, .int 0, .null, .null, .int 0, .int 0, .null, .null, .null, .null, .int 0, .int 0, .int 0, .int 0, .int 0, .null, .int 0, .null, .null, .null, .null, .null, .null, .null, .int 0, .int 0, .null, .null]) xc_12 (x_at tdX12_init 40 rfl) wf_X12_39 (by decide) rfl rfl rfl rfl (Nat.le_of_ble_eq_true rfl) rfl ?_
  refine n_aload_n (x_at tdX12_init 41 rfl) rfl rfl ?_
  refine n_bipush (x_at tdX12_init 42 rfl) (v := 6) (by decide) ?_
  refine n_newiH (t := 0) (n := 6) (x_at tdX12_init 43 rfl) rfl wa_int rfl (fun _ _ => rfl) rfl (Nat.le_of_ble_eq_true rfl) (by decide) (by decide) (Nat.le_of_ble_eq_true rfl) (Nat.le_of_ble_eq_true rfl) (fun q10 => ?_)
  refine n_putF (k := 25) (fs' := [.ref q1, .int 0, .int 0, .int (-1), .int 0, .int 0, .int 0, .int 0, .int 0, .long 0, .ref q2, .ref q3, .ref q4, .ref q5, .ref q6, .ref q7, .ref q8, .int 0, .int 0, .int 0, .int 0, .int 0, .int 0, .int 0, .ref q9, .ref q10, .null, .null, .null, .null, .null, .null, .null, .null, .null, .null, .null, .null, .null, .null, .null, .null, .null, .null, .null, .null, .null, .null, .null, .int 0, .int 0, .int 0, .int 0, .int 0, .int 0, .int 0, .int 0, .int 0, .int 0, .int 0, .int 0, .int 0, .int 0, .int 0, .int 0, .int 0, .int 0, .null, .null, .int 0, .int 0, .null, .null, .int 0, .int 0, .null, .null, .null, .null, .int 0, .int 0, .int 0, .int 0, .int 0, .null, .int 0, .null, .null, .null, .null, .null, .null, .null, .int 0, .int 0, .null, .null]) xc_12 (x_at tdX12_init 44 rfl) wf_X12_42 (by decide) rfl rfl rfl rfl (Nat.le_of_ble_eq_true rfl) rfl ?_
  refine n_aload_n (x_at tdX12_init 45 rfl) rfl rfl ?_
  refine n_bipush (x_at tdX12_init 46 rfl) (v := 6) (by decide) ?_
  refine n_newiH (t := 0) (n := 6) (x_at tdX12_init 47 rfl) rfl wa_int rfl (fun _ _ => rfl) rfl (Nat.le_of_ble_eq_true rfl) (by decide) (by decide) (Nat.le_of_ble_eq_true rfl) (Nat.le_of_ble_eq_true rfl) (fun q11 => ?_)
  refine n_putF (k := 26) (fs' := [.ref q1, .int 0, .int 0, .int (-1), .int 0, .int 0, .int 0, .int 0, .int 0, .long 0, .ref q2, .ref q3, .ref q4, .ref q5, .ref q6, .ref q7, .ref q8, .int 0, .int 0, .int 0, .int 0, .int 0, .int 0, .int 0, .ref q9, .ref q10, .ref q11, .null, .null, .null, .null, .null, .null, .null, .null, .null, .null, .null, .null, .null, .null, .null, .null, .null, .null, .null, .null, .null, .null, .int 0, .int 0, .int 0, .int 0, .int 0, .int 0, .int 0, .int 0, .int 0, .int 0, .int 0, .int 0, .int 0, .int 0, .int 0, .int 0, .int 0, .int 0, .null, .null, .int 0, .int 0, .null, .null, .int 0, .int 0, .null, .null, .null, .null, .int 0, .int 0, .int 0, .int 0, .int 0, .null, .int 0, .null, .null, .null, .null, .null, .null, .null, .int 0, .int 0, .null, .null]) xc_12 (x_at tdX12_init 48 rfl) wf_X12_45 (by decide) rfl rfl rfl rfl (Nat.le_of_ble_eq_true rfl) rfl ?_
  refine n_aload_n (x_at tdX12_init 49 rfl) rfl rfl ?_
  refine n_bipush (x_at tdX12_init 50 rfl) (v := 6) (by decide) ?_
  refine n_newiH (t := 0) (n := 6) (x_at tdX12_init 51 rfl) rfl wa_int rfl (fun _ _ => rfl) rfl (Nat.le_of_ble_eq_true rfl) (by decide) (by decide) (Nat.le_of_ble_eq_true rfl) (Nat.le_of_ble_eq_true rfl) (fun q12 => ?_)
  refine n_putF (k := 27) (fs' := [.ref q1, .int 0, .int 0, .int (-1), .int 0, .int 0, .int 0, .int 0, .int 0, .long 0, .ref q2, .ref q3, .ref q4, .ref q5, .ref q6, .ref q7, .ref q8, .int 0, .int 0, .int 0, .int 0, .int 0, .int 0, .int 0, .ref q9, .ref q10, .ref q11, .ref q12, .null, .null, .null, .null, .null, .null, .null, .null, .null, .null, .null, .null, .null, .null, .null, .null, .null, .null, .null, .null, .null, .int 0, .int 0, .int 0, .int 0, .int 0, .int 0, .int 0, .int 0, .int 0, .int 0, .int 0, .int 0, .int 0, .int 0, .int 0, .int 0, .int 0, .int 0, .null, .null, .int 0, .int 0, .null, .null, .int 0, .int 0, .null, .null, .null, .null, .int 0, .int 0, .int 0, .int 0, .int 0, .null, .int 0, .null, .null, .null, .null, .null, .null, .null, .int 0, .int 0, .null, .null]) xc_12 (x_at tdX12_init 52 rfl) wf_X12_48 (by decide) rfl rfl rfl rfl (Nat.le_of_ble_eq_true rfl) rfl ?_
  refine n_aload_n (x_at tdX12_init 53 rfl) rfl rfl ?_
  refine n_bipush (x_at tdX12_init 54 rfl) (v := 6) (by decide) ?_
  refine n_newiH (t := 0) (n := 6) (x_at tdX12_init 55 rfl) rfl wa_int rfl (fun _ _ => rfl) rfl (Nat.le_of_ble_eq_true rfl) (by decide) (by decide) (Nat.le_of_ble_eq_true rfl) (Nat.le_of_ble_eq_true rfl) (fun q13 => ?_)
  refine n_putF (k := 28) (fs' := [.ref q1, .int 0, .int 0, .int (-1), .int 0, .int 0, .int 0, .int 0, .int 0, .long 0, .ref q2, .ref q3, .ref q4, .ref q5, .ref q6, .ref q7, .ref q8, .int 0, .int 0, .int 0, .int 0, .int 0, .int 0, .int 0, .ref q9, .ref q10, .ref q11, .ref q12, .ref q13, .null, .null, .null, .null, .null, .null, .null, .null, .null, .null, .null, .null, .null, .null, .null, .null, .null, .null, .null, .null, .int 0, .int 0, .int 0, .int 0, .int 0, .int 0, .int 0, .int 0, .int 0, .int 0, .int 0, .int 0, .int 0, .int 0, .int 0, .int 0, .int 0, .int 0, .null, .null, .int 0, .int 0, .null, .null, .int 0, .int 0, .null, .null, .null, .null, .int 0, .int 0, .int 0, .int 0, .int 0, .null, .int 0, .null, .null, .null, .null, .null, .null, .null, .int 0, .int 0, .null, .null]) xc_12 (x_at tdX12_init 56 rfl) wf_X12_51 (by decide) rfl rfl rfl rfl (Nat.le_of_ble_eq_true rfl) rfl ?_
  refine n_aload_n (x_at tdX12_init 57 rfl) rfl rfl ?_
  refine n_bipush (x_at tdX12_init 58 rfl) (v := 36) (by decide) ?_
  refine n_newiH (t := 0) (n := 36) (x_at tdX12_init 59 rfl) rfl wa_int rfl (fun _ _ => rfl) rfl (Nat.le_of_ble_eq_true rfl) (by decide) (by decide) (Nat.le_of_ble_eq_true rfl) (Nat.le_of_ble_eq_true rfl) (fun q14 => ?_)
  refine n_putF (k := 29) (fs' := [.ref q1, .int 0, .int 0, .int (-1), .int 0, .int 0, .int 0, .int 0, .int 0, .long 0, .ref q2, .ref q3, .ref q4, .ref q5, .ref q6, .ref q7, .ref q8, .int 0, .int 0, .int 0, .int 0, .int 0, .int 0, .int 0, .ref q9, .ref q10, .ref q11, .ref q12, .ref q13, .ref q14, .null, .null, .null, .null, .null, .null, .null, .null, .null, .null, .null, .null, .null, .null, .null, .null, .null, .null, .null, .int 0, .int 0, .int 0, .int 0, .int 0, .int 0, .int 0, .int 0, .int 0, .int 0, .int 0, .int 0, .int 0, .int 0, .int 0, .int 0, .int 0, .int 0, .null, .null, .int 0, .int 0, .null, .null, .int 0, .int 0, .null, .null, .null, .null, .int 0, .int 0, .int 0, .int 0, .int 0, .null, .int 0, .null, .null, .null, .null, .null, .null, .null, .int 0, .int 0, .null, .null]) xc_12 (x_at tdX12_init 60 rfl) wf_X12_54 (by decide) rfl rfl rfl rfl (Nat.le_of_ble_eq_true rfl) rfl ?_
  refine n_aload_n (x_at tdX12_init 61 rfl) rfl rfl ?_
  refine n_bipush (x_at tdX12_init 62 rfl) (v := 6) (by decide) ?_
  refine n_newiH (t := 0) (n := 6) (x_at tdX12_init 63 rfl) rfl wa_int rfl (fun _ _ => rfl) rfl (Nat.le_of_ble_eq_true rfl) (by decide) (by decide) (Nat.le_of_ble_eq_true rfl) (Nat.le_of_ble_eq_true rfl) (fun q15 => ?_)
  refine n_putF (k := 30) (fs' := [.ref q1, .int 0, .int 0, .int (-1), .int 0, .int 0, .int 0, .int 0, .int 0, .long 0, .ref q2, .ref q3, .ref q4, .ref q5, .ref q6, .ref q7, .ref q8, .int 0, .int 0, .int 0, .int 0, .int 0, .int 0, .int 0, .ref q9, .ref q10, .ref q11, .ref q12, .ref q13, .ref q14, .ref q15, .null, .null, .null, .null, .null, .null, .null, .null, .null, .null, .null, .null, .null, .null, .null, .null, .null, .null, .int 0, .int 0, .int 0, .int 0, .int 0, .int 0, .int 0, .int 0, .int 0, .int 0, .int 0, .int 0, .int 0, .int 0, .int 0, .int 0, .int 0, .int 0, .null, .null, .int 0, .int 0, .null, .null, .int 0, .int 0, .null, .null, .null, .null, .int 0, .int 0, .int 0, .int 0, .int 0, .null, .int 0, .null, .null, .null, .null, .null, .null, .null, .int 0, .int 0, .null, .null]) xc_12 (x_at tdX12_init 64 rfl) wf_X12_57 (by decide) rfl rfl rfl rfl (Nat.le_of_ble_eq_true rfl) rfl ?_
  refine n_aload_n (x_at tdX12_init 65 rfl) rfl rfl ?_
  refine n_bipush (x_at tdX12_init 66 rfl) (v := 6) (by decide) ?_
  refine n_newiH (t := 0) (n := 6) (x_at tdX12_init 67 rfl) rfl wa_int rfl (fun _ _ => rfl) rfl (Nat.le_of_ble_eq_true rfl) (by decide) (by decide) (Nat.le_of_ble_eq_true rfl) (Nat.le_of_ble_eq_true rfl) (fun q16 => ?_)
  refine n_putF (k := 31) (fs' := [.ref q1, .int 0, .int 0, .int (-1), .int 0, .int 0, .int 0, .int 0, .int 0, .long 0, .ref q2, .ref q3, .ref q4, .ref q5, .ref q6, .ref q7, .ref q8, .int 0, .int 0, .int 0, .int 0, .int 0, .int 0, .int 0, .ref q9, .ref q10, .ref q11, .ref q12, .ref q13, .ref q14, .ref q15, .ref q16, .null, .null, .null, .null, .null, .null, .null, .null, .null, .null, .null, .null, .null, .null, .null, .null, .null, .int 0, .int 0, .int 0, .int 0, .int 0, .int 0, .int 0, .int 0, .int 0, .int 0, .int 0, .int 0, .int 0, .int 0, .int 0, .int 0, .int 0, .int 0, .null, .null, .int 0, .int 0, .null, .null, .int 0, .int 0, .null, .null, .null, .null, .int 0, .int 0, .int 0, .int 0, .int 0, .null, .int 0, .null, .null, .null, .null, .null, .null, .null, .int 0, .int 0, .null, .null]) xc_12 (x_at tdX12_init 68 rfl) wf_X12_60 (by decide) rfl rfl rfl rfl (Nat.le_of_ble_eq_true rfl) rfl ?_
  refine n_aload_n (x_at tdX12_init 69 rfl) rfl rfl ?_
  refine n_bipush (x_at tdX12_init 70 rfl) (v := 6) (by decide) ?_
  refine n_newiH (t := 0) (n := 6) (x_at tdX12_init 71 rfl) rfl wa_int rfl (fun _ _ => rfl) rfl (Nat.le_of_ble_eq_true rfl) (by decide) (by decide) (Nat.le_of_ble_eq_true rfl) (Nat.le_of_ble_eq_true rfl) (fun q17 => ?_)
  refine n_putF (k := 32) (fs' := [.ref q1, .int 0, .int 0, .int (-1), .int 0, .int 0, .int 0, .int 0, .int 0, .long 0, .ref q2, .ref q3, .ref q4, .ref q5, .ref q6, .ref q7, .ref q8, .int 0, .int 0, .int 0, .int 0, .int 0, .int 0, .int 0, .ref q9, .ref q10, .ref q11, .ref q12, .ref q13, .ref q14, .ref q15, .ref q16, .ref q17, .null, .null, .null, .null, .null, .null, .null, .null, .null, .null, .null, .null, .null, .null, .null, .null, .int 0, .int 0, .int 0, .int 0, .int 0, .int 0, .int 0, .int 0, .int 0, .int 0, .int 0, .int 0, .int 0, .int 0, .int 0, .int 0, .int 0, .int 0, .null, .null, .int 0, .int 0, .null, .null, .int 0, .int 0, .null, .null, .null, .null, .int 0, .int 0, .int 0, .int 0, .int 0, .null, .int 0, .null, .null, .null, .null, .null, .null, .null, .int 0, .int 0, .null, .null]) xc_12 (x_at tdX12_init 72 rfl) wf_X12_63 (by decide) rfl rfl rfl rfl (Nat.le_of_ble_eq_true rfl) rfl ?_
  refine n_aload_n (x_at tdX12_init 73 rfl) rfl rfl ?_
  refine n_bipush (x_at tdX12_init 74 rfl) (v := 6) (by decide) ?_
  refine n_newiH (t := 0) (n := 6) (x_at tdX12_init 75 rfl) rfl wa_int rfl (fun _ _ => rfl) rfl (Nat.le_of_ble_eq_true rfl) (by decide) (by decide) (Nat.le_of_ble_eq_true rfl) (Nat.le_of_ble_eq_true rfl) (fun q18 => ?_)
  refine n_putF (k := 33) (fs' := [.ref q1, .int 0, .int 0, .int (-1), .int 0, .int 0, .int 0, .int 0, .int 0, .long 0, .ref q2, .ref q3, .ref q4, .ref q5, .ref q6, .ref q7, .ref q8, .int 0, .int 0, .int 0, .int 0, .int 0, .int 0, .int 0, .ref q9, .ref q10, .ref q11, .ref q12, .ref q13, .ref q14, .ref q15, .ref q16, .ref q17, .ref q18, .null, .null, .null, .null, .null, .null, .null, .null, .null, .null, .null, .null, .null, .null, .null, .int 0, .int 0, .int 0, .int 0, .int 0, .int 0, .int 0, .int 0, .int 0, .int 0, .int 0, .int 0, .int 0, .int 0, .int 0, .int 0, .int 0, .int 0, .null, .null, .int 0, .int 0, .null, .null, .int 0, .int 0, .null, .null, .null, .null, .int 0, .int 0, .int 0, .int 0, .int 0, .null, .int 0, .null, .null, .null, .null, .null, .null, .null, .int 0, .int 0, .null, .null]) xc_12 (x_at tdX12_init 76 rfl) wf_X12_66 (by decide) rfl rfl rfl rfl (Nat.le_of_ble_eq_true rfl) rfl ?_
  refine n_aload_n (x_at tdX12_init 77 rfl) rfl rfl ?_
  refine n_bipush (x_at tdX12_init 78 rfl) (v := 36) (by decide) ?_
  refine n_newiH (t := 0) (n := 36) (x_at tdX12_init 79 rfl) rfl wa_int rfl (fun _ _ => rfl) rfl (Nat.le_of_ble_eq_true rfl) (by decide) (by decide) (Nat.le_of_ble_eq_true rfl) (Nat.le_of_ble_eq_true rfl) (fun q19 => ?_)
  refine n_putF (k := 34) (fs' := [.ref q1, .int 0, .int 0, .int (-1), .int 0, .int 0, .int 0, .int 0, .int 0, .long 0, .ref q2, .ref q3, .ref q4, .ref q5, .ref q6, .ref q7, .ref q8, .int 0, .int 0, .int 0, .int 0, .int 0, .int 0, .int 0, .ref q9, .ref q10, .ref q11, .ref q12, .ref q13, .ref q14, .ref q15, .ref q16, .ref q17, .ref q18, .ref q19, .null, .null, .null, .null, .null, .null, .null, .null, .null, .null, .null, .null, .null, .null, .int 0, .int 0, .int 0, .int 0, .int 0, .int 0, .int 0, .int 0, .int 0, .int 0, .int 0, .int 0, .int 0, .int 0, .int 0, .int 0, .int 0, .int 0, .null, .null, .int 0, .int 0, .null, .null, .int 0, .int 0, .null, .null, .null, .null, .int 0, .int 0, .int 0, .int 0, .int 0, .null, .int 0, .null, .null, .null, .null, .null, .null, .null, .int 0, .int 0, .null, .null]) xc_12 (x_at tdX12_init 80 rfl) wf_X12_69 (by decide) rfl rfl rfl rfl (Nat.le_of_ble_eq_true rfl) rfl ?_
  refine n_aload_n (x_at tdX12_init 81 rfl) rfl rfl ?_
  refine n_bipush (x_at tdX12_init 82 rfl) (v := 10) (by decide) ?_
  refine n_newiH (t := 0) (n := 10) (x_at tdX12_init 83 rfl) rfl wa_int rfl (fun _ _ => rfl) rfl (Nat.le_of_ble_eq_true rfl) (by decide) (by decide) (Nat.le_of_ble_eq_true rfl) (Nat.le_of_ble_eq_true rfl) (fun q20 => ?_)
  refine n_putF (k := 35) (fs' := [.ref q1, .int 0, .int 0, .int (-1), .int 0, .int 0, .int 0, .int 0, .int 0, .long 0, .ref q2, .ref q3, .ref q4, .ref q5, .ref q6, .ref q7, .ref q8, .int 0, .int 0, .int 0, .int 0, .int 0, .int 0, .int 0, .ref q9, .ref q10, .ref q11, .ref q12, .ref q13, .ref q14, .ref q15, .ref q16, .ref q17, .ref q18, .ref q19, .ref q20, .null, .null, .null, .null, .null, .null, .null, .null, .null, .null, .null, .null, .null, .int 0, .int 0, .int 0, .int 0, .int 0, .int 0, .int 0, .int 0, .int 0, .int 0, .int 0, .int 0, .int 0, .int 0, .int 0, .int 0, .int 0, .int 0, .null, .null, .int 0, .int 0, .null, .null, .int 0, .int 0, .null, .null, .null, .null, .int 0, .int 0, .int 0, .int 0, .int 0, .null, .int 0, .null, .null, .null, .null, .null, .null, .null, .int 0, .int 0, .null, .null]) xc_12 (x_at tdX12_init 84 rfl) wf_X12_72 (by decide) rfl rfl rfl rfl (Nat.le_of_ble_eq_true rfl) rfl ?_
  refine n_aload_n (x_at tdX12_init 85 rfl) rfl rfl ?_
  refine n_bipush (x_at tdX12_init 86 rfl) (v := 10) (by decide) ?_
  refine n_newiH (t := 0) (n := 10) (x_at tdX12_init 87 rfl) rfl wa_int rfl (fun _ _ => rfl) rfl (Nat.le_of_ble_eq_true rfl) (by decide) (by decide) (Nat.le_of_ble_eq_true rfl) (Nat.le_of_ble_eq_true rfl) (fun q21 => ?_)
  refine n_putF (k := 36) (fs' := [.ref q1, .int 0, .int 0, .int (-1), .int 0, .int 0, .int 0, .int 0, .int 0, .long 0, .ref q2, .ref q3, .ref q4, .ref q5, .ref q6, .ref q7, .ref q8, .int 0, .int 0, .int 0, .int 0, .int 0, .int 0, .int 0, .ref q9, .ref q10, .ref q11, .ref q12, .ref q13, .ref q14, .ref q15, .ref q16, .ref q17, .ref q18, .ref q19, .ref q20, .ref q21, .null, .null, .null, .null, .null, .null, .null, .null, .null, .null, .null, .null, .int 0, .int 0, .int 0, .int 0, .int 0, .int 0, .int 0, .int 0, .int 0, .int 0, .int 0, .int 0, .int 0, .int 0, .int 0, .int 0, .int 0, .int 0, .null, .null, .int 0, .int 0, .null, .null, .int 0, .int 0, .null, .null, .null, .null, .int 0, .int 0, .int 0, .int 0, .int 0, .null, .int 0, .null, .null, .null, .null, .null, .null, .null, .int 0, .int 0, .null, .null]) xc_12 (x_at tdX12_init 88 rfl) wf_X12_75 (by decide) rfl rfl rfl rfl (Nat.le_of_ble_eq_true rfl) rfl ?_
  refine n_aload_n (x_at tdX12_init 89 rfl) rfl rfl ?_
  refine n_bipush (x_at tdX12_init 90 rfl) (v := 10) (by decide) ?_
  refine n_newiH (t := 0) (n := 10) (x_at tdX12_init 91 rfl) rfl wa_int rfl (fun _ _ => rfl) rfl (Nat.le_of_ble_eq_true rfl) (by decide) (by decide) (Nat.le_of_ble_eq_true rfl) (Nat.le_of_ble_eq_true rfl) (fun q22 => ?_)
  refine n_putF (k := 37) (fs' := [.ref q1, .int 0, .int 0, .int (-1), .int 0, .int 0, .int 0, .int 0, .int 0, .long 0, .ref q2, .ref q3, .ref q4, .ref q5, .ref q6, .ref q7, .ref q8, .int 0, .int 0, .int 0, .int 0, .int 0, .int 0, .int 0, .ref q9, .ref q10, .ref q11, .ref q12, .ref q13, .ref q14, .ref q15, .ref q16, .ref q17, .ref q18, .ref q19, .ref q20, .ref q21, .ref q22, .null, .null, .null, .null, .null, .null, .null, .null, .null, .null, .null, .int 0, .int 0, .int 0, .int 0, .int 0, .int 0, .int 0, .int 0, .int 0, .int 0, .int 0, .int 0, .int 0, .int 0, .int 0, .int 0, .int 0, .int 0, .null, .null, .int 0, .int 0, .null, .null, .int 0, .int 0, .null, .null, .null, .null, .int 0, .int 0, .int 0, .int 0, .int 0, .null, .int 0, .null, .null, .null, .null, .null, .null, .null, .int 0, .int 0, .null, .null]) xc_12 (x_at tdX12_init 92 rfl) wf_X12_78 (by decide) rfl rfl rfl rfl (Nat.le_of_ble_eq_true rfl) rfl ?_
  refine n_aload_n (x_at tdX12_init 93 rfl) rfl rfl ?_
  refine n_bipush (x_at tdX12_init 94 rfl) (v := 10) (by decide) ?_
  refine n_newiH (t := 0) (n := 10) (x_at tdX12_init 95 rfl) rfl wa_int rfl (fun _ _ => rfl) rfl (Nat.le_of_ble_eq_true rfl) (by decide) (by decide) (Nat.le_of_ble_eq_true rfl) (Nat.le_of_ble_eq_true rfl) (fun q23 => ?_)
  refine n_putF (k := 38) (fs' := [.ref q1, .int 0, .int 0, .int (-1), .int 0, .int 0, .int 0, .int 0, .int 0, .long 0, .ref q2, .ref q3, .ref q4, .ref q5, .ref q6, .ref q7, .ref q8, .int 0, .int 0, .int 0, .int 0, .int 0, .int 0, .int 0, .ref q9, .ref q10, .ref q11, .ref q12, .ref q13, .ref q14, .ref q15, .ref q16, .ref q17, .ref q18, .ref q19, .ref q20, .ref q21, .ref q22, .ref q23, .null, .null, .null, .null, .null, .null, .null, .null, .null, .null, .int 0, .int 0, .int 0, .int 0, .int 0, .int 0, .int 0, .int 0, .int 0, .int 0, .int 0, .int 0, .int 0, .int 0, .int 0, .int 0, .int 0, .int 0, .null, .null, .int 0, .int 0, .null, .null, .int 0, .int 0, .null, .null, .null, .null, .int 0, .int 0, .int 0, .int 0, .int 0, .null, .int 0, .null, .null, .null, .null, .null, .null, .null, .int 0, .int 0, .null, .null]) xc_12 (x_at tdX12_init 96 rfl) wf_X12_81 (by decide) rfl rfl rfl rfl (Nat.le_of_ble_eq_true rfl) rfl ?_
  refine n_aload_n (x_at tdX12_init 97 rfl) rfl rfl ?_
  refine n_bipush (x_at tdX12_init 98 rfl) (v := 10) (by decide) ?_
  refine n_newiH (t := 0) (n := 10) (x_at tdX12_init 99 rfl) rfl wa_int rfl (fun _ _ => rfl) rfl (Nat.le_of_ble_eq_true rfl) (by decide) (by decide) (Nat.le_of_ble_eq_true rfl) (Nat.le_of_ble_eq_true rfl) (fun q24 => ?_)
  refine n_putF (k := 39) (fs' := [.ref q1, .int 0, .int 0, .int (-1), .int 0, .int 0, .int 0, .int 0, .int 0, .long 0, .ref q2, .ref q3, .ref q4, .ref q5, .ref q6, .ref q7, .ref q8, .int 0, .int 0, .int 0, .int 0, .int 0, .int 0, .int 0, .ref q9, .ref q10, .ref q11, .ref q12, .ref q13, .ref q14, .ref q15, .ref q16, .ref q17, .ref q18, .ref q19, .ref q20, .ref q21, .ref q22, .ref q23, .ref q24, .null, .null, .null, .null, .null, .null, .null, .null, .null, .int 0, .int 0, .int 0, .int 0, .int 0, .int 0, .int 0, .int 0, .int 0, .int 0, .int 0, .int 0, .int 0, .int 0, .int 0, .int 0, .int 0, .int 0, .null, .null, .int 0, .int 0, .null, .null, .int 0, .int 0, .null, .null, .null, .null, .int 0, .int 0, .int 0, .int 0, .int 0, .null, .int 0, .null, .null, .null, .null, .null, .null, .null, .int 0, .int 0, .null, .null]) xc_12 (x_at tdX12_init 100 rfl) wf_X12_84 (by decide) rfl rfl rfl rfl (Nat.le_of_ble_eq_true rfl) rfl ?_
  refine n_aload_n (x_at tdX12_init 101 rfl) rfl rfl ?_
  refine n_bipush (x_at tdX12_init 102 rfl) (v := 10) (by decide) ?_
  refine n_newiH (t := 0) (n := 10) (x_at tdX12_init 103 rfl) rfl wa_int rfl (fun _ _ => rfl) rfl (Nat.le_of_ble_eq_true rfl) (by decide) (by decide) (Nat.le_of_ble_eq_true rfl) (Nat.le_of_ble_eq_true rfl) (fun q25 => ?_)
  refine n_putF (k := 40) (fs' := [.ref q1, .int 0, .int 0, .int (-1), .int 0, .int 0, .int 0, .int 0, .int 0, .long 0, .ref q2, .ref q3, .ref q4, .ref q5, .ref q6, .ref q7, .ref q8, .int 0, .int 0, .int 0, .int 0, .int 0, .int 0, .int 0, .ref q9, .ref q10, .ref q11, .ref q12, .ref q13, .ref q14, .ref q15, .ref q16, .ref q17, .ref q18, .ref q19, .ref q20, .ref q21, .ref q22, .ref q23, .ref q24, .ref q25, .null, .null, .null, .null, .null, .null, .null, .null, .int 0, .int 0, .int 0, .int 0, .int 0, .int 0, .int 0, .int 0, .int 0, .int 0, .int 0, .int 0, .int 0, .int 0, .int 0, .int 0, .int 0, .int 0, .null, .null, .int 0, .int 0, .null, .null, .int 0, .int 0, .null, .null, .null, .null, .int 0, .int 0, .int 0, .int 0, .int 0, .null, .int 0, .null, .null, .null, .null, .null, .null, .null, .int 0, .int 0, .null, .null]) xc_12 (x_at tdX12_init 104 rfl) wf_X12_87 (by decide) rfl rfl rfl rfl (Nat.le_of_ble_eq_true rfl) rfl ?_
  refine n_aload_n (x_at tdX12_init 105 rfl) rfl rfl ?_
  refine n_bipush (x_at tdX12_init 106 rfl) (v := 10) (by decide) ?_
  refine n_newiH (t := 0) (n := 10) (x_at tdX12_init 107 rfl) rfl wa_int rfl (fun _ _ => rfl) rfl (Nat.le_of_ble_eq_true rfl) (by decide) (by decide) (Nat.le_of_ble_eq_true rfl) (Nat.le_of_ble_eq_true rfl) (fun q26 => ?_)
  refine n_putF (k := 41) (fs' := [.ref q1, .int 0, .int 0, .int (-1), .int 0, .int 0, .int 0, .int 0, .int 0, .long 0, .ref q2, .ref q3, .ref q4, .ref q5, .ref q6, .ref q7, .ref q8, .int 0, .int 0, .int 0, .int 0, .int 0, .int 0, .int 0, .ref q9, .ref q10, .ref q11, .ref q12, .ref q13, .ref q14, .ref q15, .ref q16, .ref q17, .ref q18, .ref q19, .ref q20, .ref q21, .ref q22, .ref q23, .ref q24, .ref q25, .ref q26, .null, .null, .null, .null, .null, .null, .null, .int 0, .int 0, .int 0, .int 0, .int 0, .int 0, .int 0, .int 0, .int 0, .int 0, .int 0, .int 0, .int 0, .int 0, .int 0, .int 0, .int 0, .int 0, .null, .null, .int 0, .int 0, .null, .null, .int 0, .int 0, .null, .null, .null, .null, .int 0, .int 0, .int 0, .int 0, .int 0, .null, .int 0, .null, .null, .null, .null, .null, .null, .null, .int 0, .int 0, .null, .null]) xc_12 (x_at tdX12_init 108 rfl) wf_X12_90 (by decide) rfl rfl rfl rfl (Nat.le_of_ble_eq_true rfl) rfl ?_
  refine n_aload_n (x_at tdX12_init 109 rfl) rfl rfl ?_
  refine n_bipush (x_at tdX12_init 110 rfl) (v := 10) (by decide) ?_
  refine n_newiH (t := 0) (n := 10) (x_at tdX12_init 111 rfl) rfl wa_int rfl (fun _ _ => rfl) rfl (Nat.le_of_ble_eq_true rfl) (by decide) (by decide) (Nat.le_of_ble_eq_true rfl) (Nat.le_of_ble_eq_true rfl) (fun q27 => ?_)
  refine n_putF (k := 42) (fs' := [.ref q1, .int 0, .int 0, .int (-1), .int 0, .int 0, .int 0, .int 0, .int 0, .long 0, .ref q2, .ref q3, .ref q4, .ref q5, .ref q6, .ref q7, .ref q8, .int 0, .int 0, .int 0, .int 0, .int 0, .int 0, .int 0, .ref q9, .ref q10, .ref q11, .ref q12, .ref q13, .ref q14, .ref q15, .ref q16, .ref q17, .ref q18, .ref q19, .ref q20, .ref q21, .ref q22, .ref q23, .ref q24, .ref q25, .ref q26, .ref q27, .null, .null, .null, .null, .null, .null, .int 0, .int 0, .int 0, .int 0, .int 0, .int 0, .int 0, .int 0, .int 0, .int 0, .int 0, .int 0, .int 0, .int 0, .int 0, .int 0, .int 0, .int 0, .null, .null, .int 0, .int 0, .null, .null, .int 0, .int 0, .null, .null, .null, .null, .int 0, .int 0, .int 0, .int 0, .int 0, .null, .int 0, .null, .null, .null, .null, .null, .null, .null, .int 0, .int 0, .null, .null]) xc_12 (x_at tdX12_init 112 rfl) wf_X12_93 (by decide) rfl rfl rfl rfl (Nat.le_of_ble_eq_true rfl) rfl ?_
  refine n_aload_n (x_at tdX12_init 113 rfl) rfl rfl ?_
  refine n_bipush (x_at tdX12_init 114 rfl) (v := 10) (by decide) ?_
  refine n_newiH (t := 0) (n := 10) (x_at tdX12_init 115 rfl) rfl wa_int rfl (fun _ _ => rfl) rfl (Nat.le_of_ble_eq_true rfl) (by decide) (by decide) (Nat.le_of_ble_eq_true rfl) (Nat.le_of_ble_eq_true rfl) (fun q28 => ?_)
  refine n_putF (k := 43) (fs' := [.ref q1, .int 0, .int 0, .int (-1), .int 0, .int 0, .int 0, .int 0, .int 0, .long 0, .ref q2, .ref q3, .ref q4, .ref q5, .ref q6, .ref q7, .ref q8, .int 0, .int 0, .int 0, .int 0, .int 0, .int 0, .int 0, .ref q9, .ref q10, .ref q11, .ref q12, .ref q13, .ref q14, .ref q15, .ref q16, .ref q17, .ref q18, .ref q19, .ref q20, .ref q21, .ref q22, .ref q23, .ref q24, .ref q25, .ref q26, .ref q27, .ref q28, .null, .null, .null, .null, .null, .int 0, .int 0, .int 0, .int 0, .int 0, .int 0, .int 0, .int 0, .int 0, .int 0, .int 0, .int 0, .int 0, .int 0, .int 0, .int 0, .int 0, .int 0, .null, .null, .int 0, .int 0, .null, .null, .int 0, .int 0, .null, .null, .null, .null, .int 0, .int 0, .int 0, .int 0, .int 0, .null, .int 0, .null, .null, .null, .null, .null, .null, .null, .int 0, .int 0, .null, .null]) xc_12 (x_at tdX12_init 116 rfl) wf_X12_96 (by decide) rfl rfl rfl rfl (Nat.le_of_ble_eq_true rfl) rfl ?_
  refine n_aload_n (x_at tdX12_init 117 rfl) rfl rfl ?_
  refine n_bipush (x_at tdX12_init 118 rfl) (v := 10) (by decide) ?_
  refine n_newiH (t := 0) (n := 10) (x_at tdX12_init 119 rfl) rfl wa_int rfl (fun _ _ => rfl) rfl (Nat.le_of_ble_eq_true rfl) (by decide) (by decide) (Nat.le_of_ble_eq_true rfl) (Nat.le_of_ble_eq_true rfl) (fun q29 => ?_)
  refine n_putF (k := 44) (fs' := [.ref q1, .int 0, .int 0, .int (-1), .int 0, .int 0, .int 0, .int 0, .int 0, .long 0, .ref q2, .ref q3, .ref q4, .ref q5, .ref q6, .ref q7, .ref q8, .int 0, .int 0, .int 0, .int 0, .int 0, .int 0, .int 0, .ref q9, .ref q10, .ref q11, .ref q12, .ref q13, .ref q14, .ref q15, .ref q16, .ref q17, .ref q18, .ref q19, .ref q20, .ref q21, .ref q22, .ref q23, .ref q24, .ref q25, .ref q26, .ref q27, .ref q28, .ref q29, .null, .null, .null, .null, .int 0, .int 0, .int 0, .int 0, .int 0, .int 0, .int 0, .int 0, .int 0, .int 0, .int 0, .int 0, .int 0, .int 0, .int 0, .int 0, .int 0, .int 0, .null, .null, .int 0, .int 0, .null, .null, .int 0, .int 0, .null, .null, .null, .null, .int 0, .int 0, .int 0, .int 0, .int 0, .null, .int 0, .null, .null, .null, .null, .null, .null, .null, .int 0, .int 0, .null, .null]) xc_12 (x_at tdX12_init 120 rfl) wf_X12_99 (by decide) rfl rfl rfl rfl (Nat.le_of_ble_eq_true rfl) rfl ?_
  refine n_aload_n (x_at tdX12_init 121 rfl) rfl rfl ?_
  refine n_bipush (x_at tdX12_init 122 rfl) (v := 10) (by decide) ?_
  refine n_newiH (t := 0) (n := 10) (x_at tdX12_init 123 rfl) rfl wa_int rfl (fun _ _ => rfl) rfl (Nat.le_of_ble_eq_true rfl) (by decide) (by decide) (Nat.le_of_ble_eq_true rfl) (Nat.le_of_ble_eq_true rfl) (fun q30 => ?_)
  refine n_putF (k := 45) (fs' := [.ref q1, .int 0, .int 0, .int (-1), .int 0, .int 0, .int 0, .int 0, .int 0, .long 0, .ref q2, .ref q3, .ref q4, .ref q5, .ref q6, .ref q7, .ref q8, .int 0, .int 0, .int 0, .int 0, .int 0, .int 0, .int 0, .ref q9, .ref q10, .ref q11, .ref q12, .ref q13, .ref q14, .ref q15, .ref q16, .ref q17, .ref q18, .ref q19, .ref q20, .ref q21, .ref q22, .ref q23, .ref q24, .ref q25, .ref q26, .ref q27, .ref q28, .ref q29, .ref q30, .null, .null, .null, .int 0, .int 0, .int 0, .int 0, .int 0, .int 0, .int 0, .int 0, .int 0, .int 0, .int 0, .int 0, .int 0, .int 0, .int 0, .int 0, .int 0, .int 0, .null, .null, .int 0, .int 0, .null, .null, .int 0, .int 0, .null, .null, .null, .null, .int 0, .int 0, .int 0, .int 0, .int 0, .null, .int 0, .null, .null, .null, .null, .null, .null, .null, .int 0, .int 0, .null, .null]) xc_12 (x_at tdX12_init 124 rfl) wf_X12_102 (by decide) rfl rfl rfl rfl (Nat.le_of_ble_eq_true rfl) rfl ?_
  refine n_aload_n (x_at tdX12_init 125 rfl) rfl rfl ?_
  refine n_bipush (x_at tdX12_init 126 rfl) (v := 10) (by decide) ?_
  refine n_newiH (t := 0) (n := 10) (x_at tdX12_init 127 rfl) rfl wa_int rfl (fun _ _ => rfl) rfl (Nat.le_of_ble_eq_true rfl) (by decide) (by decide) (Nat.le_of_ble_eq_true rfl) (Nat.le_of_ble_eq_true rfl) (fun q31 => ?_)
  refine n_putF (k := 46) (fs' := [.ref q1, .int 0, .int 0, .int (-1), .int 0, .int 0, .int 0, .int 0, .int 0, .long 0, .ref q2, .ref q3, .ref q4, .ref q5, .ref q6, .ref q7, .ref q8, .int 0, .int 0, .int 0, .int 0, .int 0, .int 0, .int 0, .ref q9, .ref q10, .ref q11, .ref q12, .ref q13, .ref q14, .ref q15, .ref q16, .ref q17, .ref q18, .ref q19, .ref q20, .ref q21, .ref q22, .ref q23, .ref q24, .ref q25, .ref q26, .ref q27, .ref q28, .ref q29, .ref q30, .ref q31, .null, .null, .int 0, .int 0, .int 0, .int 0, .int 0, .int 0, .int 0, .int 0, .int 0, .int 0, .int 0, .int 0, .int 0, .int 0, .int 0, .int 0, .int 0, .int 0, .null, .null, .int 0, .int 0, .null, .null, .int 0, .int 0, .null, .null, .null, .null, .int 0, .int 0, .int 0, .int 0, .int 0, .null, .int 0, .null, .null, .null, .null, .null, .null, .null, .int 0, .int 0, .null, .null]) xc_12 (x_at tdX12_init 128 rfl) wf_X12_105 (by decide) rfl rfl rfl rfl (Nat.le_of_ble_eq_true rfl) rfl ?_
  refine n_aload_n (x_at tdX12_init 129 rfl) rfl rfl ?_
  refine n_bipush (x_at tdX12_init 130 rfl) (v := 10) (by decide) ?_
  refine n_newiH (t := 2) (n := 10) (x_at tdX12_init 131 rfl) rfl wa_boolean rfl (fun _ _ => rfl) rfl (Nat.le_of_ble_eq_true rfl) (by decide) (by decide) (Nat.le_of_ble_eq_true rfl) (Nat.le_of_ble_eq_true rfl) (fun q32 => ?_)
  refine n_putF (k := 47) (fs' := [.ref q1, .int 0, .int 0, .int (-1), .int 0, .int 0, .int 0, .int 0, .int 0, .long 0, .ref q2, .ref q3, .ref q4, .ref q5, .ref q6, .ref q7, .ref q8, .int 0, .int 0, .int 0, .int 0, .int 0, .int 0, .int 0, .ref q9, .ref q10, .ref q11, .ref q12, .ref q13, .ref q14, .ref q15, .ref q16, .ref q17, .ref q18, .ref q19, .ref q20, .ref q21, .ref q22, .ref q23, .ref q24, .ref q25, .ref q26, .ref q27, .ref q28, .ref q29, .ref q30, .ref q31, .ref q32, .null, .int 0, .int 0, .int 0, .int 0, .int 0, .int 0, .int 0, .int 0, .int 0, .int 0, .int 0, .int 0, .int 0, .int 0, .int 0, .int 0, .int 0, .int 0, .null, .null, .int 0, .int 0, .null, .null, .int 0, .int 0, .null, .null, .null, .null, .int 0, .int 0, .int 0, .int 0, .int 0, .null, .int 0, .null, .null, .null, .null, .null, .null, .null, .int 0, .int 0, .null, .null]) xc_12 (x_at tdX12_init 132 rfl) wf_X12_108 (by decide) rfl rfl rfl rfl (Nat.le_of_ble_eq_true rfl) rfl ?_
  refine n_aload_n (x_at tdX12_init 133 rfl) rfl rfl ?_
  refine n_bipush (x_at tdX12_init 134 rfl) (v := 10) (by decide) ?_
  refine n_newiH (t := 2) (n := 10) (x_at tdX12_init 135 rfl) rfl wa_boolean rfl (fun _ _ => rfl) rfl (Nat.le_of_ble_eq_true rfl) (by decide) (by decide) (Nat.le_of_ble_eq_true rfl) (Nat.le_of_ble_eq_true rfl) (fun q33 => ?_)
  refine n_putF (k := 48) (fs' := [.ref q1, .int 0, .int 0, .int (-1), .int 0, .int 0, .int 0, .int 0, .int 0, .long 0, .ref q2, .ref q3, .ref q4, .ref q5, .ref q6, .ref q7, .ref q8, .int 0, .int 0, .int 0, .int 0, .int 0, .int 0, .int 0, .ref q9, .ref q10, .ref q11, .ref q12, .ref q13, .ref q14, .ref q15, .ref q16, .ref q17, .ref q18, .ref q19, .ref q20, .ref q21, .ref q22, .ref q23, .ref q24, .ref q25, .ref q26, .ref q27, .ref q28, .ref q29, .ref q30, .ref q31, .ref q32, .ref q33, .int 0, .int 0, .int 0, .int 0, .int 0, .int 0, .int 0, .int 0, .int 0, .int 0, .int 0, .int 0, .int 0, .int 0, .int 0, .int 0, .int 0, .int 0, .null, .null, .int 0, .int 0, .null, .null, .int 0, .int 0, .null, .null, .null, .null, .int 0, .int 0, .int 0, .int 0, .int 0, .null, .int 0, .null, .null, .null, .null, .null, .null, .null, .int 0, .int 0, .null, .null]) xc_12 (x_at tdX12_init 136 rfl) wf_X12_112 (by decide) rfl rfl rfl rfl (Nat.le_of_ble_eq_true rfl) rfl ?_
  refine n_aload_n (x_at tdX12_init 137 rfl) rfl rfl ?_
  refine n_bipush (x_at tdX12_init 138 rfl) (v := 8) (by decide) ?_
  refine n_put (k := 60) (fs' := [.ref q1, .int 0, .int 0, .int (-1), .int 0, .int 0, .int 0, .int 0, .int 0, .long 0, .ref q2, .ref q3, .ref q4, .ref q5, .ref q6, .ref q7, .ref q8, .int 0, .int 0, .int 0, .int 0, .int 0, .int 0, .int 0, .ref q9, .ref q10, .ref q11, .ref q12, .ref q13, .ref q14, .ref q15, .ref q16, .ref q17, .ref q18, .ref q19, .ref q20, .ref q21, .ref q22, .ref q23, .ref q24, .ref q25, .ref q26, .ref q27, .ref q28, .ref q29, .ref q30, .ref q31, .ref q32, .ref q33, .int 0, .int 0, .int 0, .int 0, .int 0, .int 0, .int 0, .int 0, .int 0, .int 0, .int 0, .int 8, .int 0, .int 0, .int 0, .int 0, .int 0, .int 0, .null, .null, .int 0, .int 0, .null, .null, .int 0, .int 0, .null, .null, .null, .null, .int 0, .int 0, .int 0, .int 0, .int 0, .null, .int 0, .null, .null, .null, .null, .null, .null, .null, .int 0, .int 0, .null, .null]) xc_12 (x_at tdX12_init 139 rfl) wf_X12_115 (by decide) rfl rfl rfl (Nat.le_of_ble_eq_true rfl) rfl ?_
  refine n_aload_n (x_at tdX12_init 140 rfl) rfl rfl ?_
  refine n_bipush (x_at tdX12_init 141 rfl) (v := 24) (by decide) ?_
  refine n_newiH (t := 0) (n := 24) (x_at tdX12_init 142 rfl) rfl wa_int rfl (fun _ _ => rfl) rfl (Nat.le_of_ble_eq_true rfl) (by decide) (by decide) (Nat.le_of_ble_eq_true rfl) (Nat.le_of_ble_eq_true rfl) (fun q34 => ?_)
  refine n_putF (k := 67) (fs' := [.ref q1, .int 0, .int 0, .int (-1), .int 0, .int 0, .int 0, .int 0, .int 0, .long 0, .ref q2, .ref q3, .ref q4, .ref q5, .ref q6, .ref q7, .ref q8, .int 0, .int 0, .int 0, .int 0, .int 0, .int 0, .int 0, .ref q9, .ref q10, .ref q11, .ref q12, .ref q13, .ref q14, .ref q15, .ref q16, .ref q17, .ref q18, .ref q19, .ref q20, .ref q21, .ref q22, .ref q23, .ref q24, .ref q25, .ref q26, .ref q27, .ref q28, .ref q29, .ref q30, .ref q31, .ref q32, .ref q33, .int 0, .int 0, .int 0, .int 0, .int 0, .int 0, .int 0, .int 0, .int 0, .int 0, .int 0, .int 8, .int 0, .int 0, .int 0, .int 0, .int 0, .int 0, .ref q34, .null, .int 0, .int 0, .null, .null, .int 0, .int 0, .null, .null, .null, .null, .int 0, .int 0, .int 0, .int 0, .int 0, .null, .int 0, .null, .null, .null, .null, .null, .null, .null, .int 0, .int 0, .null, .null]) xc_12 (x_at tdX12_init 143 rfl) wf_X12_118 (by decide) rfl rfl rfl rfl (Nat.le_of_ble_eq_true rfl) rfl ?_
  refine n_aload_n (x_at tdX12_init 144 rfl) rfl rfl ?_
  refine n_sipush (x_at tdX12_init 145 rfl) (v := 960) (by decide) ?_
  refine n_newiH (t := 0) (n := 960) (x_at tdX12_init 146 rfl) rfl wa_int rfl (fun _ _ => rfl) rfl (Nat.le_of_ble_eq_true rfl) (by decide) (by decide) (Nat.le_of_ble_eq_true rfl) (Nat.le_of_ble_eq_true rfl) (fun q35 => ?_)
  refine n_putF (k := 68) (fs' := [.ref q1, .int 0, .int 0, .int (-1), .int 0, .int 0, .int 0, .int 0, .int 0, .long 0, .ref q2, .ref q3, .ref q4, .ref q5, .ref q6, .ref q7, .ref q8, .int 0, .int 0, .int 0, .int 0, .int 0, .int 0, .int 0, .ref q9, .ref q10, .ref q11, .ref q12, .ref q13, .ref q14, .ref q15, .ref q16, .ref q17, .ref q18, .ref q19, .ref q20, .ref q21, .ref q22, .ref q23, .ref q24, .ref q25, .ref q26, .ref q27, .ref q28, .ref q29, .ref q30, .ref q31, .ref q32, .ref q33, .int 0, .int 0, .int 0, .int 0, .int 0, .int 0, .int 0, .int 0, .int 0, .int 0, .int 0, .int 8, .int 0, .int 0, .int 0, .int 0, .int 0, .int 0, .ref q34, .ref q35, .int 0, .int 0, .null, .null, .int 0, .int 0, .null, .null, .null, .null, .int 0, .int 0, .int 0, .int 0, .int 0, .null, .int 0, .null, .null, .null, .null, .null, .null, .null, .int 0, .int 0, .null, .null]) xc_12 (x_at tdX12_init 147 rfl) wf_X12_121 (by decide) rfl rfl rfl rfl (Nat.le_of_ble_eq_true rfl) rfl ?_
  refine n_aload_n (x_at tdX12_init 148 rfl) rfl rfl ?_
  refine n_bipush (x_at tdX12_init 149 rfl) (v := 10) (by decide) ?_
  refine n_newiH (t := 0) (n := 10) (x_at tdX12_init 150 rfl) rfl wa_int rfl (fun _ _ => rfl) rfl (Nat.le_of_ble_eq_true rfl) (by decide) (by decide) (Nat.le_of_ble_eq_true rfl) (Nat.le_of_ble_eq_true rfl) (fun q36 => ?_)
  refine n_putF (k := 71) (fs' := [.ref q1, .int 0, .int 0, .int (-1), .int 0, .int 0, .int 0, .int 0, .int 0, .long 0, .ref q2, .ref q3, .ref q4, .ref q5, .ref q6, .ref q7, .ref q8, .int 0, .int 0, .int 0, .int 0, .int 0, .int 0, .int 0, .ref q9, .ref q10, .ref q11, .ref q12, .ref q13, .ref q14, .ref q15, .ref q16, .ref q17, .ref q18, .ref q19, .ref q20, .ref q21, .ref q22, .ref q23, .ref q24, .ref q25, .ref q26, .ref q27, .ref q28, .ref q29, .ref q30, .ref q31, .ref q32, .ref q33, .int 0, .int 0, .int 0, .int 0, .int 0, .int 0, .int 0, .int 0, .int 0, .int 0, .int 0, .int 8, .int 0, .int 0, .int 0, .int 0, .int 0, .int 0, .ref q34, .ref q35, .int 0, .int 0, .ref q36, .null, .int 0, .int 0, .null, .null, .null, .null, .int 0, .int 0, .int 0, .int 0, .int 0, .null, .int 0, .null, .null, .null, .null, .null, .null, .null, .int 0, .int 0, .null, .null]) xc_12 (x_at tdX12_init 151 rfl) wf_X12_124 (by decide) rfl rfl rfl rfl (Nat.le_of_ble_eq_true rfl) rfl ?_
  refine n_aload_n (x_at tdX12_init 152 rfl) rfl rfl ?_
  refine n_bipush (x_at tdX12_init 153 rfl) (v := 10) (by decide) ?_
  refine n_newiH (t := 0) (n := 10) (x_at tdX12_init 154 rfl) rfl wa_int rfl (fun _ _ => rfl) rfl (Nat.le_of_ble_eq_true rfl) (by decide) (by decide) (Nat.le_of_ble_eq_true rfl) (Nat.le_of_ble_eq_true rfl) (fun q37 => ?_)
  refine n_putF (k := 72) (fs' := [.ref q1, .int 0, .int 0, .int (-1), .int 0, .int 0, .int 0, .int 0, .int 0, .long 0, .ref q2, .ref q3, .ref q4, .ref q5, .ref q6, .ref q7, .ref q8, .int 0, .int 0, .int 0, .int 0, .int 0, .int 0, .int 0, .ref q9, .ref q10, .ref q11, .ref q12, .ref q13, .ref q14, .ref q15, .ref q16, .ref q17, .ref q18, .ref q19, .ref q20, .ref q21, .ref q22, .ref q23, .ref q24, .ref q25, .ref q26, .ref q27, .ref q28, .ref q29, .ref q30, .ref q31, .ref q32, .ref q33, .int 0, .int 0, .int 0, .int 0, .int 0, .int 0, .int 0, .int 0, .int 0, .int 0, .int 0, .int 8, .int 0, .int 0, .int 0, .int 0, .int 0, .int 0, .ref q34, .ref q35, .int 0, .int 0, .ref q36, .ref q37, .int 0, .int 0, .null, .null, .null, .null, .int 0, .int 0, .int 0, .int 0, .int 0, .null, .int 0, .null, .null, .null, .null, .null, .null, .null, .int 0, .int 0, .null, .null]) xc_12 (x_at tdX12_init 155 rfl) wf_X12_127 (by decide) rfl rfl rfl rfl (Nat.le_of_ble_eq_true rfl) rfl ?_
  refine n_aload_n (x_at tdX12_init 156 rfl) rfl rfl ?_
  refine n_bipush (x_at tdX12_init 157 rfl) (v := 7) (by decide) ?_
  refine n_newiH (t := 0) (n := 7) (x_at tdX12_init 158 rfl) rfl wa_int rfl (fun _ _ => rfl) rfl (Nat.le_of_ble_eq_true rfl) (by decide) (by decide) (Nat.le_of_ble_eq_true rfl) (Nat.le_of_ble_eq_true rfl) (fun q38 => ?_)
  refine n_putF (k := 75) (fs' := [.ref q1, .int 0, .int 0, .int (-1), .int 0, .int 0, .int 0, .int 0, .int 0, .long 0, .ref q2, .ref q3, .ref q4, .ref q5, .ref q6, .ref q7, .ref q8, .int 0, .int 0, .int 0, .int 0, .int 0, .int 0, .int 0, .ref q9, .ref q10, .ref q11, .ref q12, .ref q13, .ref q14, .ref q15, .ref q16, .ref q17, .ref q18, .ref q19, .ref q20, .ref q21, .ref q22, .ref q23, .ref q24, .ref q25, .ref q26, .ref q27, .ref q28, .ref q29, .ref q30, .ref q31, .ref q32, .ref q33, .int 0, .int 0, .int 0, .int 0, .int 0, .int 0, .int 0, .int 0, .int 0, .int 0, .int 0, .int 8, .int 0, .int 0, .int 0, .int 0, .int 0, .int 0, .ref q34, .ref q35, .int 0, .int 0, .ref q36, .ref q37, .int 0, .int 0, .ref q38, .null, .null, .null, .int 0, .int 0, .int 0, .int 0, .int 0, .null, .int 0, .null, .null, .null, .null, .null, .null, .null, .int 0, .int 0, .null, .null]) xc_12 (x_at tdX12_init 159 rfl) wf_X12_130 (by decide) rfl rfl rfl rfl (Nat.le_of_ble_eq_true rfl) rfl ?_
  refine n_aload_n (x_at tdX12_init 160 rfl) rfl rfl ?_
  refine n_bipush (x_at tdX12_init 161 rfl) (v := 7) (by decide) ?_
  refine n_newiH (t := 0) (n := 7) (x_at tdX12_init 162 rfl) rfl wa_int rfl (fun _ _ => rfl) rfl (Nat.le_of_ble_eq_true rfl) (by decide) (by decide) (Nat.le_of_ble_eq_true rfl) (Nat.le_of_ble_eq_true rfl) (fun q39 => ?_)
  refine n_putF (k := 76) (fs' := [.ref q1, .int 0, .int 0, .int (-1), .int 0, .int 0, .int 0, .int 0, .int 0, .long 0, .ref q2, .ref q3, .ref q4, .ref q5, .ref q6, .ref q7, .ref q8, .int 0, .int 0, .int 0, .int 0, .int 0, .int 0, .int 0, .ref q9, .ref q10, .ref q11, .ref q12, .ref q13, .ref q14, .ref q15, .ref q16, .ref q17, .ref q18, .ref q19, .ref q20, .ref q21, .ref q22, .ref q23, .ref q24, .ref q25, .ref q26, .ref q27, .ref q28, .ref q29, .ref q30, .ref q31, .ref q32, .ref q33, .int 0, .int 0, .int 0, .int 0, .int 0, .int 0, .int 0, .int 0, .int 0, .int 0, .int 0, .int 8, .int 0, .int 0, .int 0, .int 0, .int 0, .int 0, .ref q34, .ref q35, .int 0, .int 0, .ref q36, .ref q37, .int 0, .int 0, .ref q38, .ref q39, .null, .null, .int 0, .int 0, .int 0, .int 0, .int 0, .null, .int 0, .null, .null, .null, .null, .null, .null, .null, .int 0, .int 0, .null, .null]) xc_12 (x_at tdX12_init 163 rfl) wf_X12_133 (by decide) rfl rfl rfl rfl (Nat.le_of_ble_eq_true rfl) rfl ?_
  refine n_aload_n (x_at tdX12_init 164 rfl) rfl rfl ?_
  refine n_bipush (x_at tdX12_init 165 rfl) (v := 7) (by decide) ?_
  refine n_newiH (t := 0) (n := 7) (x_at tdX12_init 166 rfl) rfl wa_int rfl (fun _ _ => rfl) rfl (Nat.le_of_ble_eq_true rfl) (by decide) (by decide) (Nat.le_of_ble_eq_true rfl) (Nat.le_of_ble_eq_true rfl) (fun q40 => ?_)
  refine n_putF (k := 77) (fs' := [.ref q1, .int 0, .int 0, .int (-1), .int 0, .int 0, .int 0, .int 0, .int 0, .long 0, .ref q2, .ref q3, .ref q4, .ref q5, .ref q6, .ref q7, .ref q8, .int 0, .int 0, .int 0, .int 0, .int 0, .int 0, .int 0, .ref q9, .ref q10, .ref q11, .ref q12, .ref q13, .ref q14, .ref q15, .ref q16, .ref q17, .ref q18, .ref q19, .ref q20, .ref q21, .ref q22, .ref q23, .ref q24, .ref q25, .ref q26, .ref q27, .ref q28, .ref q29, .ref q30, .ref q31, .ref q32, .ref q33, .int 0, .int 0, .int 0, .int 0, .int 0, .int 0, .int 0, .int 0, .int 0, .int 0, .int 0, .int 8, .int 0, .int 0, .int 0, .int 0, .int 0, .int 0, .ref q34, .ref q35, .int 0, .int 0, .ref q36, .ref q37, .int 0, .int 0, .ref q38, .ref q39, .ref q40, .null, .int 0, .int 0, .int 0, .int 0, .int 0, .null, .int 0, .null, .null, .null, .null, .null, .null, .null, .int 0, .int 0, .null, .null]) xc_12 (x_at tdX12_init 167 rfl) wf_X12_136 (by decide) rfl rfl rfl rfl (Nat.le_of_ble_eq_true rfl) rfl ?_
  refine n_aload_n (x_at tdX12_init 168 rfl) rfl rfl ?_
  refine n_bipush (x_at tdX12_init 169 rfl) (v := 7) (by decide) ?_
  refine n_newiH (t := 0) (n := 7) (x_at tdX12_init 170 rfl) rfl wa_int rfl (fun _ _ => rfl) rfl (Nat.le_of_ble_eq_true rfl) (by decide) (by decide) (Nat.le_of_ble_eq_true rfl) (Nat.le_of_ble_eq_true rfl) (fun q41 => ?_)
  refine n_putF (k := 78) (fs' := [.ref q1, .int 0, .int 0, .int (-1), .int 0, .int 0, .int 0, .int 0, .int 0, .long 0, .ref q2, .ref q3, .ref q4, .ref q5, .ref q6, .ref q7, .ref q8, .int 0, .int 0, .int 0, .int 0, .int 0, .int 0, .int 0, .ref q9, .ref q10, .ref q11, .ref q12, .ref q13, .ref q14, .ref q15, .ref q16, .ref q17, .ref q18, .ref q19, .ref q20, .ref q21, .ref q22, .ref q23, .ref q24, .ref q25, .ref q26, .ref q27, .ref q28, .ref q29, .ref q30, .ref q31, .ref q32, .ref q33, .int 0, .int 0, .int 0, .int 0, .int 0, .int 0, .int 0, .int 0, .int 0, .int 0, .int 0, .int 8, .int 0, .int 0, .int 0, .int 0, .int 0, .int 0, .ref q34, .ref q35, .int 0, .int 0, .ref q36, .ref q37, .int 0, .int 0, .ref q38, .ref q39, .ref q40, .ref q41, .int 0, .int 0, .int 0, .int 0, .int 0, .null, .int 0, .null, .null, .null, .null, .null, .null, .null, .int 0, .int 0, .null, .null]) xc_12 (x_at tdX12_init 171 rfl) wf_X12_139 (by decide) rfl rfl rfl rfl (Nat.le_of_ble_eq_true rfl) rfl ?_
  refine n_aload_n (x_at tdX12_init 172 rfl) rfl rfl ?_
  refine n_bipush (x_at tdX12_init 173 rfl) (v := 10) (by decide) ?_
  refine n_newiH (t := 0) (n := 10) (x_at tdX12_init 174 rfl) rfl wa_int rfl (fun _ _ => rfl) rfl (Nat.le_of_ble_eq_true rfl) (by decide) (by decide) (Nat.le_of_ble_eq_true rfl) (Nat.le_of_ble_eq_true rfl) (fun q42 => ?_)
  refine n_putF (k := 84) (fs' := [.ref q1, .int 0, .int 0, .int (-1), .int 0, .int 0, .int 0, .int 0, .int 0, .long 0, .ref q2, .ref q3, .ref q4, .ref q5, .ref q6, .ref q7, .ref q8, .int 0, .int 0, .int 0, .int 0, .int 0, .int 0, .int 0, .ref q9, .ref q10, .ref q11, .ref q12, .ref q13, .ref q14, .ref q15, .ref q16, .ref q17, .ref q18, .ref q19, .ref q20, .ref q21, .ref q22, .ref q23, .ref q24, .ref q25, .ref q26, .ref q27, .ref q28, .ref q29, .ref q30, .ref q31, .ref q32, .ref q33, .int 0, .int 0, .int 0, .int 0, .int 0, .int 0, .int 0, .int 0, .int 0, .int 0, .int 0, .int 8, .int 0, .int 0, .int 0, .int 0, .int 0, .int 0, .ref q34, .ref q35, .int 0, .int 0, .ref q36, .ref q37, .int 0, .int 0, .ref q38, .ref q39, .ref q40, .ref q41, .int 0, .int 0, .int 0, .int 0, .int 0, .ref q42, .int 0, .null, .null, .null, .null, .null, .null, .null, .int 0, .int 0, .null, .null]) xc_12 (x_at tdX12_init 175 rfl) wf_X12_142 (by decide) rfl rfl rfl rfl (Nat.le_of_ble_eq_true rfl) rfl ?_
  refine n_aload_n (x_at tdX12_init 176 rfl) rfl rfl ?_
  refine n_sipush (x_at tdX12_init 177 rfl) (v := 1024) (by decide) ?_
  refine n_newiH (t := 2) (n := 1024) (x_at tdX12_init 178 rfl) rfl wa_boolean rfl (fun _ _ => rfl) rfl (Nat.le_of_ble_eq_true rfl) (by decide) (by decide) (Nat.le_of_ble_eq_true rfl) (Nat.le_of_ble_eq_true rfl) (fun q43 => ?_)
  refine n_putF (k := 86) (fs' := [.ref q1, .int 0, .int 0, .int (-1), .int 0, .int 0, .int 0, .int 0, .int 0, .long 0, .ref q2, .ref q3, .ref q4, .ref q5, .ref q6, .ref q7, .ref q8, .int 0, .int 0, .int 0, .int 0, .int 0, .int 0, .int 0, .ref q9, .ref q10, .ref q11, .ref q12, .ref q13, .ref q14, .ref q15, .ref q16, .ref q17, .ref q18, .ref q19, .ref q20, .ref q21, .ref q22, .ref q23, .ref q24, .ref q25, .ref q26, .ref q27, .ref q28, .ref q29, .ref q30, .ref q31, .ref q32, .ref q33, .int 0, .int 0, .int 0, .int 0, .int 0, .int 0, .int 0, .int 0, .int 0, .int 0, .int 0, .int 8, .int 0, .int 0, .int 0, .int 0, .int 0, .int 0, .ref q34, .ref q35, .int 0, .int 0, .ref q36, .ref q37, .int 0, .int 0, .ref q38, .ref q39, .ref q40, .ref q41, .int 0, .int 0, .int 0, .int 0, .int 0, .ref q42, .int 0, .ref q43, .null, .null, .null, .null, .null, .null, .int 0, .int 0, .null, .null]) xc_12 (x_at tdX12_init 179 rfl) wf_X12_145 (by decide) rfl rfl rfl rfl (Nat.le_of_ble_eq_true rfl) rfl ?_
  refine n_aload_n (x_at tdX12_init 180 rfl) rfl rfl ?_
  refine n_bipush (x_at tdX12_init 181 rfl) (v := 6) (by decide) ?_
  refine n_newiH (t := 0) (n := 6) (x_at tdX12_init 182 rfl) rfl wa_int rfl (fun _ _ => rfl) rfl (Nat.le_of_ble_eq_true rfl) (by decide) (by decide) (Nat.le_of_ble_eq_true rfl) (Nat.le_of_ble_eq_true rfl) (fun q44 => ?_)
  refine n_putF (k := 87) (fs' := [.ref q1, .int 0, .int 0, .int (-1), .int 0, .int 0, .int 0, .int 0, .int 0, .long 0, .ref q2, .ref q3, .ref q4, .ref q5, .ref q6, .ref q7, .ref q8, .int 0, .int 0, .int 0, .int 0, .int 0, .int 0, .int 0, .ref q9, .ref q10, .ref q11, .ref q12, .ref q13, .ref q14, .ref q15, .ref q16, .ref q17, .ref q18, .ref q19, .ref q20, .ref q21, .ref q22, .ref q23, .ref q24, .ref q25, .ref q26, .ref q27, .ref q28, .ref q29, .ref q30, .ref q31, .ref q32, .ref q33, .int 0, .int 0, .int 0, .int 0, .int 0, .int 0, .int 0, .int 0, .int 0, .int 0, .int 0, .int 8, .int 0, .int 0, .int 0, .int 0, .int 0, .int 0, .ref q34, .ref q35, .int 0, .int 0, .ref q36, .ref q37, .int 0, .int 0, .ref q38, .ref q39, .ref q40, .ref q41, .int 0, .int 0, .int 0, .int 0, .int 0, .ref q42, .int 0, .ref q43, .ref q44, .null, .null, .null, .null, .null, .int 0, .int 0, .null, .null]) xc_12 (x_at tdX12_init 183 rfl) wf_X12_148 (by decide) rfl rfl rfl rfl (Nat.le_of_ble_eq_true rfl) rfl ?_
  refine n_aload_n (x_at tdX12_init 184 rfl) rfl rfl ?_
  refine n_bipush (x_at tdX12_init 185 rfl) (v := 30) (by decide) ?_
  refine n_newiH (t := 0) (n := 30) (x_at tdX12_init 186 rfl) rfl wa_int rfl (fun _ _ => rfl) rfl (Nat.le_of_ble_eq_true rfl) (by decide) (by decide) (Nat.le_of_ble_eq_true rfl) (Nat.le_of_ble_eq_true rfl) (fun q45 => ?_)
  refine n_putF (k := 88) (fs' := [.ref q1, .int 0, .int 0, .int (-1), .int 0, .int 0, .int 0, .int 0, .int 0, .long 0, .ref q2, .ref q3, .ref q4, .ref q5, .ref q6, .ref q7, .ref q8, .int 0, .int 0, .int 0, .int 0, .int 0, .int 0, .int 0, .ref q9, .ref q10, .ref q11, .ref q12, .ref q13, .ref q14, .ref q15, .ref q16, .ref q17, .ref q18, .ref q19, .ref q20, .ref q21, .ref q22, .ref q23, .ref q24, .ref q25, .ref q26, .ref q27, .ref q28, .ref q29, .ref q30, .ref q31, .ref q32, .ref q33, .int 0, .int 0, .int 0, .int 0, .int 0, .int 0, .int 0, .int 0, .int 0, .int 0, .int 0, .int 8, .int 0, .int 0, .int 0, .int 0, .int 0, .int 0, .ref q34, .ref q35, .int 0, .int 0, .ref q36, .ref q37, .int 0, .int 0, .ref q38, .ref q39, .ref q40, .ref q41, .int 0, .int 0, .int 0, .int 0, .int 0, .ref q42, .int 0, .ref q43, .ref q44, .ref q45, .null, .null, .null, .null, .int 0, .int 0, .null, .null]) xc_12 (x_at tdX12_init 187 rfl) wf_X12_151 (by decide) rfl rfl rfl rfl (Nat.le_of_ble_eq_true rfl) rfl ?_
  refine n_aload_n (x_at tdX12_init 188 rfl) rfl rfl ?_
  refine n_bipush (x_at tdX12_init 189 rfl) (v := 30) (by decide) ?_
  refine n_newiH (t := 0) (n := 30) (x_at tdX12_init 190 rfl) rfl wa_int rfl (fun _ _ => rfl) rfl (Nat.le_of_ble_eq_true rfl) (by decide) (by decide) (Nat.le_of_ble_eq_true rfl) (Nat.le_of_ble_eq_true rfl) (fun q46 => ?_)
  refine n_putF (k := 89) (fs' := [.ref q1, .int 0, .int 0, .int (-1), .int 0, .int 0, .int 0, .int 0, .int 0, .long 0, .ref q2, .ref q3, .ref q4, .ref q5, .ref q6, .ref q7, .ref q8, .int 0, .int 0, .int 0, .int 0, .int 0, .int 0, .int 0, .ref q9, .ref q10, .ref q11, .ref q12, .ref q13, .ref q14, .ref q15, .ref q16, .ref q17, .ref q18, .ref q19, .ref q20, .ref q21, .ref q22, .ref q23, .ref q24, .ref q25, .ref q26, .ref q27, .ref q28, .ref q29, .ref q30, .ref q31, .ref q32, .ref q33, .int 0, .int 0, .int 0, .int 0, .int 0, .int 0, .int 0, .int 0, .int 0, .int 0, .int 0, .int 8, .int 0, .int 0, .int 0, .int 0, .int 0, .int 0, .ref q34, .ref q35, .int 0, .int 0, .ref q36, .ref q37, .int 0, .int 0, .ref q38, .ref q39, .ref q40, .ref q41, .int 0, .int 0, .int 0, .int 0, .int 0, .ref q42, .int 0, .ref q43, .ref q44, .ref q45, .ref q46, .null, .null, .null, .int 0, .int 0, .null, .null]) xc_12 (x_at tdX12_init 191 rfl) wf_X12_154 (by decide) rfl rfl rfl rfl (Nat.le_of_ble_eq_true rfl) rfl ?_
  refine n_aload_n (x_at tdX12_init 192 rfl) rfl rfl ?_
  refine n_bipush (x_at tdX12_init 193 rfl) (v := 30) (by decide) ?_
  refine n_newiH (t := 0) (n := 30) (x_at tdX12_init 194 rfl) rfl wa_int rfl (fun _ _ => rfl) rfl (Nat.le_of_ble_eq_true rfl) (by decide) (by decide) (Nat.le_of_ble_eq_true rfl) (Nat.le_of_ble_eq_true rfl) (fun q47 => ?_)
  refine n_putF (k := 90) (fs' := [.ref q1, .int 0, .int 0, .int (-1), .int 0, .int 0, .int 0, .int 0, .int 0, .long 0, .ref q2, .ref q3, .ref q4, .ref q5, .ref q6, .ref q7, .ref q8, .int 0, .int 0, .int 0, .int 0, .int 0, .int 0, .int 0, .ref q9, .ref q10, .ref q11, .ref q12, .ref q13, .ref q14, .ref q15, .ref q16, .ref q17, .ref q18, .ref q19, .ref q20, .ref q21, .ref q22, .ref q23, .ref q24, .ref q25, .ref q26, .ref q27, .ref q28, .ref q29, .ref q30, .ref q31, .ref q32, .ref q33, .int 0, .int 0, .int 0, .int 0, .int 0, .int 0, .int 0, .int 0, .int 0, .int 0, .int 0, .int 8, .int 0, .int 0, .int 0, .int 0, .int 0, .int 0, .ref q34, .ref q35, .int 0, .int 0, .ref q36, .ref q37, .int 0, .int 0, .ref q38, .ref q39, .ref q40, .ref q41, .int 0, .int 0, .int 0, .int 0, .int 0, .ref q42, .int 0, .ref q43, .ref q44, .ref q45, .ref q46, .ref q47, .null, .null, .int 0, .int 0, .null, .null]) xc_12 (x_at tdX12_init 195 rfl) wf_X12_157 (by decide) rfl rfl rfl rfl (Nat.le_of_ble_eq_true rfl) rfl ?_
  refine n_aload_n (x_at tdX12_init 196 rfl) rfl rfl ?_
  refine n_bipush (x_at tdX12_init 197 rfl) (v := 30) (by decide) ?_
  refine n_newiH (t := 0) (n := 30) (x_at tdX12_init 198 rfl) rfl wa_int rfl (fun _ _ => rfl) rfl (Nat.le_of_ble_eq_true rfl) (by decide) (by decide) (Nat.le_of_ble_eq_true rfl) (Nat.le_of_ble_eq_true rfl) (fun q48 => ?_)
  refine n_putF (k := 91) (fs' := [.ref q1, .int 0, .int 0, .int (-1), .int 0, .int 0, .int 0, .int 0, .int 0, .long 0, .ref q2, .ref q3, .ref q4, .ref q5, .ref q6, .ref q7, .ref q8, .int 0, .int 0, .int 0, .int 0, .int 0, .int 0, .int 0, .ref q9, .ref q10, .ref q11, .ref q12, .ref q13, .ref q14, .ref q15, .ref q16, .ref q17, .ref q18, .ref q19, .ref q20, .ref q21, .ref q22, .ref q23, .ref q24, .ref q25, .ref q26, .ref q27, .ref q28, .ref q29, .ref q30, .ref q31, .ref q32, .ref q33, .int 0, .int 0, .int 0, .int 0, .int 0, .int 0, .int 0, .int 0, .int 0, .int 0, .int 0, .int 8, .int 0, .int 0, .int 0, .int 0, .int 0, .int 0, .ref q34, .ref q35, .int 0, .int 0, .ref q36, .ref q37, .int 0, .int 0, .ref q38, .ref q39, .ref q40, .ref q41, .int 0, .int 0, .int 0, .int 0, .int 0, .ref q42, .int 0, .ref q43, .ref q44, .ref q45, .ref q46, .ref q47, .ref q48, .null, .int 0, .int 0, .null, .null]) xc_12 (x_at tdX12_init 199 rfl) wf_X12_160 (by decide) rfl rfl rfl rfl (Nat.le_of_ble_eq_true rfl) rfl ?_
  refine n_aload_n (x_at tdX12_init 200 rfl) rfl rfl ?_
  refine n_bipush (x_at tdX12_init 201 rfl) (v := 30) (by decide) ?_
  refine n_newiH (t := 2) (n := 30) (x_at tdX12_init 202 rfl) rfl wa_boolean rfl (fun _ _ => rfl) rfl (Nat.le_of_ble_eq_true rfl) (by decide) (by decide) (Nat.le_of_ble_eq_true rfl) (Nat.le_of_ble_eq_true rfl) (fun q49 => ?_)
  refine n_putF (k := 92) (fs' := [.ref q1, .int 0, .int 0, .int (-1), .int 0, .int 0, .int 0, .int 0, .int 0, .long 0, .ref q2, .ref q3, .ref q4, .ref q5, .ref q6, .ref q7, .ref q8, .int 0, .int 0, .int 0, .int 0, .int 0, .int 0, .int 0, .ref q9, .ref q10, .ref q11, .ref q12, .ref q13, .ref q14, .ref q15, .ref q16, .ref q17, .ref q18, .ref q19, .ref q20, .ref q21, .ref q22, .ref q23, .ref q24, .ref q25, .ref q26, .ref q27, .ref q28, .ref q29, .ref q30, .ref q31, .ref q32, .ref q33, .int 0, .int 0, .int 0, .int 0, .int 0, .int 0, .int 0, .int 0, .int 0, .int 0, .int 0, .int 8, .int 0, .int 0, .int 0, .int 0, .int 0, .int 0, .ref q34, .ref q35, .int 0, .int 0, .ref q36, .ref q37, .int 0, .int 0, .ref q38, .ref q39, .ref q40, .ref q41, .int 0, .int 0, .int 0, .int 0, .int 0, .ref q42, .int 0, .ref q43, .ref q44, .ref q45, .ref q46, .ref q47, .ref q48, .ref q49, .int 0, .int 0, .null, .null]) xc_12 (x_at tdX12_init 203 rfl) wf_X12_163 (by decide) rfl rfl rfl rfl (Nat.le_of_ble_eq_true rfl) rfl ?_
  refine n_aload_n (x_at tdX12_init 204 rfl) rfl rfl ?_
  refine n_iconst (x_at tdX12_init 205 rfl) (v := 3) (by decide) ?_
  refine n_newiH (t := 2) (n := 3) (x_at tdX12_init 206 rfl) rfl wa_boolean rfl (fun _ _ => rfl) rfl (Nat.le_of_ble_eq_true rfl) (by decide) (by decide) (Nat.le_of_ble_eq_true rfl) (Nat.le_of_ble_eq_true rfl) (fun q50 => ?_)
  refine n_putF (k := 95) (fs' := [.ref q1, .int 0, .int 0, .int (-1), .int 0, .int 0, .int 0, .int 0, .int 0, .long 0, .ref q2, .ref q3, .ref q4, .ref q5, .ref q6, .ref q7, .ref q8, .int 0, .int 0, .int 0, .int 0, .int 0, .int 0, .int 0, .ref q9, .ref q10, .ref q11, .ref q12, .ref q13, .ref q14, .ref q15, .ref q16, .ref q17, .ref q18, .ref q19, .ref q20, .ref q21, .ref q22, .ref q23, .ref q24, .ref q25, .ref q26, .ref q27, .ref q28, .ref q29, .ref q30, .ref q31, .ref q32, .ref q33, .int 0, .int 0, .int 0, .int 0, .int 0, .int 0, .int 0, .int 0, .int 0, .int 0, .int 0, .int 8, .int 0, .int 0, .int 0, .int 0, .int 0, .int 0, .ref q34, .ref q35, .int 0, .int 0, .ref q36, .ref q37, .int 0, .int 0, .ref q38, .ref q39, .ref q40, .ref q41, .int 0, .int 0, .int 0, .int 0, .int 0, .ref q42, .int 0, .ref q43, .ref q44, .ref q45, .ref q46, .ref q47, .ref q48, .ref q49, .int 0, .int 0, .ref q50, .null]) xc_12 (x_at tdX12_init 207 rfl) wf_X12_166 (by decide) rfl rfl rfl rfl (Nat.le_of_ble_eq_true rfl) rfl ?_
  refine n_aload_n (x_at tdX12_init 208 rfl) rfl rfl ?_
  refine n_bipush (x_at tdX12_init 209 rfl) (v := 72) (by decide) ?_
  refine n_newiH (t := 0) (n := 72) (x_at tdX12_init 210 rfl) rfl wa_int rfl (fun _ _ => rfl) rfl (Nat.le_of_ble_eq_true rfl) (by decide) (by decide) (Nat.le_of_ble_eq_true rfl) (Nat.le_of_ble_eq_true rfl) (fun q51 => ?_)
  refine n_putF (k := 96) (fs' := [.ref q1, .int 0, .int 0, .int (-1), .int 0, .int 0, .int 0, .int 0, .int 0, .long 0, .ref q2, .ref q3, .ref q4, .ref q5, .ref q6, .ref q7, .ref q8, .int 0, .int 0, .int 0, .int 0, .int 0, .int 0, .int 0, .ref q9, .ref q10, .ref q11, .ref q12, .ref q13, .ref q14, .ref q15, .ref q16, .ref q17, .ref q18, .ref q19, .ref q20, .ref q21, .ref q22, .ref q23, .ref q24, .ref q25, .ref q26, .ref q27, .ref q28, .ref q29, .ref q30, .ref q31, .ref q32, .ref q33, .int 0, .int 0, .int 0, .int 0, .int 0, .int 0, .int 0, .int 0, .int 0, .int 0, .int 0, .int 8, .int 0, .int 0, .int 0, .int 0, .int 0, .int 0, .ref q34, .ref q35, .int 0, .int 0, .ref q36, .ref q37, .int 0, .int 0, .ref q38, .ref q39, .ref q40, .ref q41, .int 0, .int 0, .int 0, .int 0, .int 0, .ref q42, .int 0, .ref q43, .ref q44, .ref q45, .ref q46, .ref q47, .ref q48, .ref q49, .int 0, .int 0, .ref q50, .ref q51]) xc_12 (x_at tdX12_init 211 rfl) wf_X12_169 (by decide) rfl rfl rfl rfl (Nat.le_of_ble_eq_true rfl) rfl ?_
  refine n_ws (w1 := x_ws (gM (g.1, g.2.1, g.2.2, adL [b, q1, q2, q3, q4, q5, q6, q7, q8, q9, q10, q11, q12, q13, q14, q15, q16, q17, q18, q19, q20, q21, q22, q23, q24, q25, q26, q27, q28, q29, q30, q31, q32, q33, q34, q35, q36, q37, q38, q39, q40, q41, q42, q43, q44, q45, q46, q47, q48, q49, q50, q51] (fun _ => 0), fun _ => True)) S0M) ?_ ?_
  · simp only [List.append_assoc, List.cons_append, List.nil_append]
    refine cons2 ?_ ?_
    · refine congrArg (Prod.mk b) (congrArg Sum.inr (congrArg (Prod.mk 12) ?_))
      refine cons2 rfl ?_
      refine cons2 rfl ?_
      refine cons2 rfl ?_
      refine cons2 rfl ?_
      refine cons2 rfl ?_
      refine cons2 rfl ?_
      refine cons2 rfl ?_
      refine cons2 rfl ?_
      refine cons2 rfl ?_
      refine cons2 rfl ?_
      refine cons2 rfl ?_
      refine cons2 rfl ?_
      refine cons2 rfl ?_
      refine cons2 rfl ?_
      refine cons2 rfl ?_
      refine cons2 rfl ?_
      refine cons2 rfl ?_
      refine cons2 rfl ?_
      refine cons2 rfl ?_
      refine cons2 rfl ?_
      refine cons2 rfl ?_
      refine cons2 rfl ?_
      refine cons2 rfl ?_
      refine cons2 rfl ?_
      refine cons2 rfl ?_
      refine cons2 rfl ?_
      refine cons2 rfl ?_
      refine cons2 rfl ?_
      refine cons2 rfl ?_
      refine cons2 rfl ?_
      refine cons2 rfl ?_
      refine cons2 rfl ?_
      refine cons2 rfl ?_
      refine cons2 rfl ?_
      refine cons2 rfl ?_
      refine cons2 rfl ?_
      refine cons2 rfl ?_
      refine cons2 rfl ?_
      refine cons2 rfl ?_
      refine cons2 rfl ?_
      refine cons2 rfl ?_
      refine cons2 rfl ?_
      refine cons2 rfl ?_
      refine cons2 rfl ?_
      refine cons2 rfl ?_
      refine cons2 rfl ?_
      refine cons2 rfl ?_
      refine cons2 rfl ?_
      refine cons2 rfl ?_
      refine cons2 rfl ?_
      refine cons2 rfl ?_
      refine cons2 rfl ?_
      refine cons2 rfl ?_
      refine cons2 rfl ?_
      refine cons2 rfl ?_
      refine cons2 rfl ?_
      refine cons2 rfl ?_
      refine cons2 rfl ?_
      refine cons2 rfl ?_
      refine cons2 rfl ?_
      refine cons2 rfl ?_
      refine cons2 rfl ?_
      refine cons2 rfl ?_
      refine cons2 rfl ?_
      refine cons2 rfl ?_
      refine cons2 rfl ?_
      refine cons2 rfl ?_
      refine cons2 rfl ?_
      refine cons2 rfl ?_
      refine cons2 rfl ?_
      refine cons2 rfl ?_
      refine cons2 rfl ?_
      refine cons2 rfl ?_
      refine cons2 rfl ?_
      refine cons2 rfl ?_
      refine cons2 rfl ?_
      refine cons2 rfl ?_
      refine cons2 rfl ?_
      refine cons2 rfl ?_
      refine cons2 rfl ?_
      refine cons2 rfl ?_
      refine cons2 rfl ?_
      refine cons2 rfl ?_
      refine cons2 rfl ?_
      refine cons2 rfl ?_
      refine cons2 rfl ?_
      refine cons2 rfl ?_
      refine cons2 rfl ?_
      refine cons2 rfl ?_
      refine cons2 rfl ?_
      refine cons2 rfl ?_
      refine cons2 rfl ?_
      refine cons2 rfl ?_
      refine cons2 rfl ?_
      refine cons2 rfl ?_
      refine cons2 rfl ?_
      refine cons2 rfl ?_
      rfl
    refine cons2 rfl ?_
    refine cons2 rfl ?_
    refine cons2 rfl ?_
    refine cons2 rfl ?_
    refine cons2 rfl ?_
    refine cons2 rfl ?_
    refine cons2 rfl ?_
    refine cons2 rfl ?_
    refine cons2 rfl ?_
    refine cons2 rfl ?_
    refine cons2 rfl ?_
    refine cons2 rfl ?_
    refine cons2 rfl ?_
    refine cons2 rfl ?_
    refine cons2 rfl ?_
    refine cons2 rfl ?_
    refine cons2 rfl ?_
    refine cons2 rfl ?_
    refine cons2 rfl ?_
    refine cons2 rfl ?_
    refine cons2 rfl ?_
    refine cons2 rfl ?_
    refine cons2 rfl ?_
    refine cons2 rfl ?_
    refine cons2 rfl ?_
    refine cons2 rfl ?_
    refine cons2 rfl ?_
    refine cons2 rfl ?_
    refine cons2 rfl ?_
    refine cons2 rfl ?_
    refine cons2 rfl ?_
    refine cons2 rfl ?_
    refine cons2 rfl ?_
    refine cons2 rfl ?_
    refine cons2 rfl ?_
    refine cons2 rfl ?_
    refine cons2 rfl ?_
    refine cons2 rfl ?_
    refine cons2 rfl ?_
    refine cons2 rfl ?_
    refine cons2 rfl ?_
    refine cons2 rfl ?_
    refine cons2 rfl ?_
    refine cons2 rfl ?_
    refine cons2 rfl ?_
    refine cons2 rfl ?_
    refine cons2 rfl ?_
    refine cons2 rfl ?_
    refine cons2 rfl ?_
    refine cons2 rfl ?_
    refine cons2 rfl ?_
    rfl
  exact n_return rfl (x_at tdX12_init 212 rfl) ⟨[b, q1, q2, q3, q4, q5, q6, q7, q8, q9, q10, q11, q12, q13, q14, q15, q16, q17, q18, q19, q20, q21, q22, q23, q24, q25, q26, q27, q28, q29, q30, q31, q32, q33, q34, q35, q36, q37, q38, q39, q40, q41, q42, q43, q44, q45, q46, q47, q48, q49, q50, q51], rfl, rfl, rfl⟩
end
