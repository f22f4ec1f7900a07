theorem kx_abs_s : Cond.static yJ9_abs_067f4 ∈ WS := WS_of (by decide +kernel) (by decide +kernel)
theorem kx_abs_z : Cond.initialized RJ9 ∈ WS := WS_of (by decide +kernel) (by decide +kernel)
theorem kx_abs_k : Cond.code yJ9_abs_067f4 cJ9_abs_067f4 2 (some .long) ∈ WS := WS_of (by decide +kernel) (by decide +kernel)
