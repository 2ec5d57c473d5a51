/-! ===== the words that every method has ===== -/
def WT : List Cond := lw_tbl.filter goodWord
def isNest : Cond → Bool
  | .fieldLinkNest _ _ _ _ _ _ => true
  | .methodLinkNest _ _ _ _ => true
  | .arrayOver (.object _) => true
  | _ => false
def NW : List Cond := tables_1.filter isNest
theorem WT_of {w : Cond} (h : w ∈ tables_1) (hg : goodWord w = true) : w ∈ WT := List.mem_filter.mpr ⟨List.mem_append_right _ h, hg⟩
theorem WT_good {w : Cond} (h : w ∈ WT) : (w.onTables && w.keeps) = true ∨ ∃ ty, w = .arrayClass ty := good_of_word (List.mem_filter.mp h).2
theorem NW_of {w : Cond} (h : w ∈ tables_1) (hg : isNest w = true) : w ∈ NW := List.mem_filter.mpr ⟨h, hg⟩
