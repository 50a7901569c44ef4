/-! The law's entry: the words of nest mates -/
theorem nF_mem : xa_nF.all (fun q => lw_tbl.contains (Cond.fieldLinkNest q.1 q.2.1 q.2.2.1 q.2.2.2.1 q.2.2.2.2.1 q.2.2.2.2.2)) = true := by decide +kernel
theorem nM_mem : xa_nM.all (fun q => lw_tbl.contains (Cond.methodLinkNest q.1 q.2.1 q.2.2.1 q.2.2.2)) = true := by decide +kernel
