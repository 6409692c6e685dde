/-! all of it -/
theorem all_ok : ay_ok in_ok :=
  all_of (fun _ _ h => op_10 h) (fun _ _ h => op_11 h) (fun _ _ a hk h => op_21 a hk h) (fun k n xs D hi hn h4 => step_ok (fun _ _ h => op_10 h) (fun _ _ h => op_11 h) (fun _ _ a hk h => op_21 a hk h) k n xs D hi hn h4)
