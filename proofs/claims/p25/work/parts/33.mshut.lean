/-! the reference's caves -/
