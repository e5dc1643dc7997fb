/-! the one fact of doubles that is wanted (freedom, part 24). It stands first: it names laws of the library that the short import has not, so that the rounds read over the whole library from their first part on, and compile each part once -/
theorem dd_nn (p f : Int32) (hf : ¬ f = 0) : FP.Core.dIsNaN (FP.Core.ddiv (FP.Core.i2d p) (FP.Core.i2d f)) = false := by
  refine Bool.eq_false_iff.mpr fun w => ?_
  rcases (FP.Core.ddiv_nan_iff _ _).mp w with h | h | ⟨s, t, h, -⟩ | ⟨-, h⟩
  · exact (FP.Core.i2d_fin p).ne_nan h
  · exact (FP.Core.i2d_fin f).ne_nan h
  · exact (FP.Core.i2d_fin p).ne_inf s h
  · exact FP.Core.i2d_ne_zero hf ((FP.Core.zero_bits2 _).mp h)
