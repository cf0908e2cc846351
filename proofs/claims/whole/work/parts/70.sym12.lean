/-! 70.sym12: wip/whole/later -/
