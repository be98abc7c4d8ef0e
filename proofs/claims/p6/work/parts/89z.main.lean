/-! THE LAW'S LOOP, all methods -/
theorem k_main (L : Nat) (xs : Nat → Int32) (hL : L ≤ 3072) : k_sat (k_itr (fun (x : (Int32)) u => f_law_B18 L xs x u) k_FU 0 z_u0) (fun y _ => y = .inr ()) :=
  k_loopmain L xs hL (fun _ u => zI u) z_u0_I (fun v u hv hu => k_body L xs zI zI z_feed z_wheel z_law z_set z_broke z_tooth z_of z_on z_lay z_shows z_day z_often z_never z_meets z_mtwo z_round z_truth z_near z_record z_records z_clear z_judge z_fits z_sure z_when z_watch z_image z_back z_undo z_redo z_body z_act z_trace z_keep z_row z_put z_element z_shift z_taken z_count (fun _ h => h) v hv hL u hu)
