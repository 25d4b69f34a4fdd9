theorem wl_4 : (List.range 30).all (fun y => wlY (y + 210)) = true := by decide +kernel
