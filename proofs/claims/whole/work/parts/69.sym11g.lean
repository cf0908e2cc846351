/-! placeholder -/
