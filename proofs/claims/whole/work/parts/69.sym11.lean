/-! 69.sym11: wip/whole/later -/
