theorem am_is_good : am_good := ⟨am_d_all, am_w_all, fun q hq => by have h := List.all_eq_true.mp am_plain q hq; simpa using h⟩
