theorem yt_72 : m_TX 72 76 "java/lang/IllegalArgumentException" := ⟨by decide +kernel, wm_1_229, wm_0_14, by decide +kernel, by decide +kernel, by decide +kernel, List.mem_of_getElem? (i := 0) rfl⟩
theorem yt_82 : m_TX 82 86 "java/lang/IllegalStateException" := ⟨by decide +kernel, wm_2_57, wm_0_15, by decide +kernel, by decide +kernel, by decide +kernel, List.mem_of_getElem? (i := 1) rfl⟩
theorem yt_108 : m_TX 108 112 "java/lang/IndexOutOfBoundsException" := ⟨by decide +kernel, wm_2_103, wm_0_16, by decide +kernel, by decide +kernel, by decide +kernel, List.mem_of_getElem? (i := 2) rfl⟩
