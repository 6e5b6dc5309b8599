/-! what is left: the law over the small machine -/
theorem pure_law_ok : pure_law := sorry
