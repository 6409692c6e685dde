theorem all_ok : ay_ok (fun _ _ => True) := sorry
