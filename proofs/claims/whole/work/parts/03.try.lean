theorem jm_try0 : (jm_exec [] 300000 60 279 0 [(0, (4, 2))] [] ([], 0)).map (fun r => (r.1, r.2.1.length, (r.2.1.map (fun c => c.2.length)).sum)) = some (some (0, 1), 209, 6892) := by decide +kernel
