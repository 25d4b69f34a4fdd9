theorem wl_2 : (List.range 60).all (fun y => wlY (y + 100)) = true := by decide +kernel
