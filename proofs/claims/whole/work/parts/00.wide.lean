/-! a name of the whole library: it sends the first light round of a machine over the whole library at once, not only at part 63 (see NOTES.md) -/
theorem zw_wide : FP.Core.Good FP.Core.b32 := FP.Core.good_b32
