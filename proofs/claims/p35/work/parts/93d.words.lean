/-! ===== the word of the check's code: its bytes are too many to be compared one by one ===== -/
set_option maxRecDepth 100000 in
theorem isSo_at : lw_tbl[723]? = some (Cond.code yL_isSo cL_isSo 17 (some .boolean)) := rfl
theorem isSo_in : Cond.code yL_isSo cL_isSo 17 (some .boolean) ∈ qT := qT_in (List.mem_of_getElem? isSo_at) (by decide +kernel)
