theorem es_mk194 : (List.range' 194 1).all es_mck = true := by sorry
