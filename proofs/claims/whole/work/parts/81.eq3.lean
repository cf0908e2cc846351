/-! 81.eq3: wip/whole/later -/
