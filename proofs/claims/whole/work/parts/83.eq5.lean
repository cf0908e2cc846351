/-! 83.eq5: wip/whole/later -/
