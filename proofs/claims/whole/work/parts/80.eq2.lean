/-! 80.eq2: wip/whole/later -/
