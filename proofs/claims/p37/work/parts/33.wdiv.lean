theorem wl_3 : (List.range 50).all (fun y => wlY (y + 160)) = true := by decide +kernel
