/-! the reference's constructor, run -/
set_option maxRecDepth 100000 in
theorem ev_R : okE loR wsR 39614 (f_X12_init [vR 12 0] (rs [.inl (12, blk 83 tyX12)] 0)) = true := by decide +kernel
