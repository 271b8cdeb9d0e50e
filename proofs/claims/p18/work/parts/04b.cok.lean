theorem jm_cok_all : (List.range 13).all jm_cok = true := by decide +kernel
