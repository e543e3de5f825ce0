/-! the class's constructor, run -/
set_option maxRecDepth 100000 in
theorem ev_C : okE loC wsC 14480 (f_X11_init [vR 11 0] (rs [.inl (11, blk 11 tyX11)] 0)) = true := by decide +kernel
